import java.util.Arrays;

/** A club whose miles are money. The document (DOC.md) has the promises; README.md says how the file is laid out. */
public final class MilesHall {
    public static final int BAD = -1000000001, NO = -1000000002, FULL = -1000000003, SPENT = -1000000004, NONE = -1000000005, NOTHING = -1000000011, INDEX = -1000000013, SIZE = -1000000014;

    private static final int MOST_DAY = 1200, YEAR_DAYS = 360, YEARS = 4;
    private static final int MOST_MEMBERS = 10, MOST_LINES = 100, MOST_TERMS = 4, MOST_FLIGHTS = 8, MOST_ASKS = 30;
    private static final int MOST_OFFERS = 8, MOST_POINTS = 3000, MOST_BYTES = 132, MOST_WAITING = 16, MOST_PLACES = 16;
    private static final int ALL_MARKS = 4095, MOST_LEG = 9999, MOST_COINS = 9999, MOST_MILES = 99999, MOST_LIFE = 9999;
    private static final int LAST_LAPSE = MOST_DAY + MOST_LIFE;
    private static final int MOST_CLASS = 3, MOST_KIND = 3, MOST_TIER = 3, MOST_POOL = 2, MOST_RATE = 999;
    private static final int PARTNERS = 4, SHEETS = 2, RULES = 3, MISSING = -1;
    private static final int MEMBER = 0, CHILD = 1, BEARER = 2, STAFF = 3;
    private static final int FLY = 0, SPEND = 1, GIFT = 2, BACK = 3;
    private static final int EARN = 0, LAPSE = 1, PRICE = 2, TIER = 3, PARTS = 4;
    private static final int FAULT = -100;
    private static final int NOTICE = 0, GRACE = 1, WARN = 2;
    private static final int[] LEAST_RULE = {0, 1, 0};
    private static final int[] MOST_RULE = {360, 999, 999};

    private final Club club = new Club();
    private final Club image = new Club();
    private final Ledger ledger = new Ledger();
    private final Ways ways = new Ways();
    private final Tape tape = new Tape();
    private final int[] waiting = new int[MOST_WAITING];
    private final int[] ranks = new int[MOST_ASKS];
    private final short[] places = new short[SHEETS * MOST_PLACES];
    private final int[] sizes = {MISSING, MISSING};
    private int waits;
    private boolean kept;

    public MilesHall() {
    }

    // ---- members, lines

    public int member(int kind, int marks) {
        if (!within(kind, 0, MOST_KIND) || !within(marks, 0, ALL_MARKS)) {
            return BAD;
        }
        return club.members.enrol(kind, marks);
    }

    public int is(int member, int kind) {
        if (!isMember(member) || !within(kind, 0, MOST_KIND)) {
            return BAD;
        }
        return club.members.isOf(member, kind) ? 1 : 0;
    }

    public int pool(int member, int pool) {
        if (!isMember(member) || (pool != NONE && !within(pool, 0, MOST_POOL))) {
            return BAD;
        }
        int was = club.members.pool[member];
        club.members.pool[member] = pool;
        return was;
    }

    public int marks(int member, int v) {
        if (!isMember(member) || !within(v, 0, ALL_MARKS)) {
            return BAD;
        }
        int was = club.members.marks[member];
        club.members.marks[member] = v;
        return was;
    }

    public int lay(int sheet) {
        if (!isSheet(sheet)) {
            return BAD;
        }
        if (sizes[sheet] == MISSING) {
            return NOTHING;
        }
        int many = Math.min(sizes[sheet], club.members.size);
        for (int i = 0; i < many; i++) {
            int v = places[sheet * MOST_PLACES + i];
            club.members.marks[i] = within(v, 0, ALL_MARKS) ? v : 0;
        }
        return many;
    }

    public int days(int n) {
        if (!within(n, 1, 100) || club.today + n > MOST_DAY) {
            return BAD;
        }
        club.today += n;
        return club.today;
    }

    public int rule(int which, int v) {
        if (!within(which, 0, RULES - 1) || !within(v, LEAST_RULE[which], MOST_RULE[which])) {
            return BAD;
        }
        int was = club.rules[which];
        club.rules[which] = v;
        return was;
    }

    public int fly(int member, int about, int leg, int how, int coins) {
        if (!isMember(member) || !isPast(about) || !within(leg, 1, MOST_LEG) || !within(coins, 0, MOST_COINS)) {
            return BAD;
        }
        if (how < 0 || !within(how / 10, 0, MOST_CLASS) || !isPartner(how % 10)) {
            return BAD;
        }
        return club.newLine(FLY, member, about, leg, how, coins);
    }

    public int spend(int member, int about, int miles, int partner) {
        if (!isMember(member) || !isPast(about) || !within(miles, 1, MOST_MILES) || !isPartner(partner)) {
            return BAD;
        }
        return club.newLine(SPEND, member, about, miles, partner, 0);
    }

    public int gift(int member, int about, int miles, int other) {
        if (!isMember(member) || !isPast(about) || !within(miles, 1, MOST_MILES) || !isMember(other)) {
            return BAD;
        }
        if (member == other) {
            return BAD;
        }
        return club.newLine(GIFT, member, about, miles, other, 0);
    }

    public int back(int line, int about) {
        if (!isLine(line) || !isPast(about)) {
            return BAD;
        }
        Lines lines = club.lines;
        if (lines.kind[line] != SPEND || about < lines.about[line]) {
            return BAD;
        }
        return club.newLine(BACK, lines.member[line], about, lines.amount[line], line, 0);
    }

    public int withdraw(int line) {
        if (!isLine(line)) {
            return BAD;
        }
        if (club.lines.withdrawn[line] != NONE) {
            return NO;
        }
        club.lines.withdrawn[line] = club.today;
        return 1;
    }

    public int line(int line, int what) {
        if (!isLine(line)) {
            return BAD;
        }
        Lines lines = club.lines;
        switch (what) {
            case 0: return lines.kind[line];
            case 1: return lines.member[line];
            case 2: return lines.about[line];
            case 3: return lines.told[line];
            case 4: return lines.withdrawn[line];
            case 5: return lines.amount[line];
            case 6: return lines.other[line];
            default: return BAD;
        }
    }

    public int stands(int member, int day, int known, int what) {
        if (!isMember(member) || !isDay(day) || !isDay(known) || !within(what, 0, 4)) {
            return BAD;
        }
        ledger.goThrough(club, day, known);
        switch (what) {
            case 0: return ledger.lapsing(member, day + 1, LAST_LAPSE);
            case 1: return ledger.pointsOf(member, day / YEAR_DAYS);
            case 2: return ledger.tierOf(club, member, day);
            case 3: return ledger.lapsing(member, day + 1, day + club.rules[WARN]);
            default: return ledger.lapsing(member, 0, day);
        }
    }

    public int brought(int line, int day, int known) {
        if (!isLine(line) || !isDay(day) || !isDay(known)) {
            return BAD;
        }
        if (!club.lines.isKnown(line, known) || club.lines.about[line] > day) {
            return NO;
        }
        ledger.goThrough(club, day, known);
        return ledger.brought[line];
    }

    public int owes(int partner, int day, int known) {
        if (!within(partner, 1, PARTNERS - 1) || !isDay(day) || !isDay(known)) {
            return BAD;
        }
        ledger.goThrough(club, day, known);
        // All miles times the greatest rate would not fit an int.
        long due = (long) ledger.made[partner] * club.madeRate[partner] / 1000;
        long given = (long) ledger.spent[partner] * club.givenRate[partner] / 1000;
        return (int) (due - given);
    }

    public int rate(int partner, int which, int v) {
        if (!within(partner, 1, PARTNERS - 1) || !within(which, 0, 1) || !within(v, 0, MOST_RATE)) {
            return BAD;
        }
        int[] rates = which == 0 ? club.madeRate : club.givenRate;
        int was = rates[partner];
        rates[partner] = v;
        return was;
    }

    // ---- terms

    public int feed(int a, int b, int c) {
        if (tape.length + 12 > MOST_BYTES) {
            return FULL;
        }
        tape.put(a);
        tape.put(b);
        tape.put(c);
        return tape.length;
    }

    public int trim(int n) {
        if (!within(n, 0, tape.length)) {
            return BAD;
        }
        tape.length = n;
        return n;
    }

    public int terms(int day) {
        tape.useUp();
        if (!isDay(day)) {
            return BAD;
        }
        boolean fromTheStart = day == 0 && club.today == 0;
        if (!fromTheStart && day < club.today + club.rules[NOTICE]) {
            return NO;
        }
        if (!tape.isTerms()) {
            return FAULT - tape.start;
        }
        if (club.texts.size >= MOST_TERMS) {
            return FULL;
        }
        club.texts.add(tape.termsFrom(day));
        return tape.counted;
    }

    // ---- seats

    public int flight(int day, int leg, int partner, int seats) {
        if (!within(day, club.today + 1, MOST_DAY) || !within(leg, 1, MOST_LEG)) {
            return BAD;
        }
        if (!isPartner(partner) || !within(seats, 0, 9)) {
            return BAD;
        }
        return club.seats.newFlight(day, leg, partner, seats);
    }

    public int ask(int member, int flight, int clas) {
        if (!isMember(member) || !isFlight(flight) || !within(clas, 0, MOST_CLASS)) {
            return BAD;
        }
        if (club.seats.day[flight] <= club.today) {
            return NO;
        }
        return club.seats.newAsk(member, flight, clas);
    }

    public int settle(int flight) {
        if (!isFlight(flight)) {
            return BAD;
        }
        if (club.seats.day[flight] <= club.today) {
            return NO;
        }
        ledger.goThrough(club, club.today, club.today);
        rankAsks(flight);
        int given = 0;
        for (int tier = MOST_TIER; tier >= 0; tier--) {
            for (int ask = 0; ask < club.seats.asks; ask++) {
                if (ranks[ask] == tier && hasSeatNow(ask, flight)) {
                    given++;
                }
            }
        }
        return given;
    }

    private void rankAsks(int flight) {
        Seats seats = club.seats;
        for (int ask = 0; ask < seats.asks; ask++) {
            boolean waitsForIt = seats.askFlight[ask] == flight && seats.paid[ask] == NONE;
            ranks[ask] = waitsForIt ? ledger.tierOf(club, seats.askMember[ask], club.today) : -1;
        }
    }

    private boolean hasSeatNow(int ask, int flight) {
        // With 100 LINES told all wait on, whatever the price would be.
        if (club.seats.open[flight] <= 0 || club.lines.size >= MOST_LINES) {
            return false;
        }
        int price = ledger.priceOf(club, ask, ranks[ask]);
        if (price > 0 && !isPaid(club.seats.askMember[ask], price, club.seats.partner[flight])) {
            return false;
        }
        club.seats.open[flight]--;
        club.seats.paid[ask] = price;
        return true;
    }

    private boolean isPaid(int member, int price, int partner) {
        if (ledger.there(club.members, member, true, club.today) < price) {
            return false;
        }
        // The ledger goes on with it, so that the next ASK finds what is left.
        ledger.take(club.members, member, true, club.today, price);
        club.newLine(SPEND, member, club.today, price, partner, 0);
        return true;
    }

    public int asked(int ask, int what) {
        Seats seats = club.seats;
        if (!within(ask, 0, seats.asks - 1)) {
            return BAD;
        }
        switch (what) {
            case 0: return seats.askMember[ask];
            case 1: return seats.askFlight[ask];
            case 2: return seats.askClass[ask];
            case 3: return seats.paid[ask] == NONE ? 0 : 1;
            case 4: return seats.paid[ask];
            default: return BAD;
        }
    }

    public int open(int flight) {
        return isFlight(flight) ? club.seats.open[flight] : BAD;
    }

    // ---- ways, rings

    public int offer(int coins, int points, int times) {
        if (!within(coins, 1, MOST_COINS) || !within(points, 1, 999) || !within(times, 1, 9)) {
            return BAD;
        }
        ways.forget();
        return club.offers.add(coins, points, times);
    }

    public int clear() {
        int was = club.offers.size;
        club.offers.size = 0;
        ways.forget();
        return was;
    }

    public int way(int n) {
        if (!within(n, 0, MOST_POINTS)) {
            return BAD;
        }
        return ways.isFound(club.offers, n) ? ways.coinsTo(n) : NO;
    }

    public int taken(int n, int offer) {
        if (!within(n, 0, MOST_POINTS) || !within(offer, 0, club.offers.size - 1)) {
            return BAD;
        }
        return ways.isFound(club.offers, n) ? ways.timesOf(n, offer) : NO;
    }

    public int tell(int v) {
        if (waits >= MOST_WAITING) {
            return FULL;
        }
        waiting[waits] = v;
        waits++;
        return waits;
    }

    public int check(int n) {
        int told = waits;
        waits = 0;
        if (!within(n, 0, MOST_POINTS)) {
            return BAD;
        }
        if (!ways.isFound(club.offers, n)) {
            return NO;
        }
        int rows = club.offers.size;
        int right = 0;
        for (int i = 0; i < told && i < rows && waiting[i] == ways.timesOf(n, i); i++) {
            right++;
        }
        return right == told && right == rows ? 0 : 1 + right;
    }

    public int ring(int i) {
        return i < 0 ? BAD : club.members.ringAt(i);
    }

    // ---- images, sheets

    public int keep() {
        image.become(club);
        kept = true;
        return club.today;
    }

    public int again() {
        if (!kept) {
            return NO;
        }
        club.become(image);
        ways.forget();
        return club.today;
    }

    public int sheet(int s, int n) {
        if (!isSheet(s) || n > MOST_PLACES) {
            return BAD;
        }
        if (n < 0) {
            return SIZE;
        }
        sizes[s] = n;
        for (int i = 0; i < MOST_PLACES; i++) {
            places[s * MOST_PLACES + i] = 0;
        }
        return n;
    }

    public int mark(int s, int place, int v) {
        if (!isSheet(s)) {
            return BAD;
        }
        if (sizes[s] == MISSING) {
            return NOTHING;
        }
        if (!within(place, 0, sizes[s] - 1)) {
            return INDEX;
        }
        int was = places[s * MOST_PLACES + place];
        places[s * MOST_PLACES + place] = (short) v;
        return was;
    }

    public int copy(int from, int place, int to, int at, int many) {
        if (!isSheet(from) || !isSheet(to)) {
            return BAD;
        }
        if (sizes[from] == MISSING || sizes[to] == MISSING) {
            return NOTHING;
        }
        if (!isStretch(place, many, sizes[from]) || !isStretch(at, many, sizes[to])) {
            return INDEX;
        }
        System.arraycopy(places, from * MOST_PLACES + place, places, to * MOST_PLACES + at, many);
        return many;
    }

    public int count(int what) {
        switch (what) {
            case 0: return club.members.size;
            case 1: return club.lines.size;
            case 2: return club.lines.allWithdrawn();
            case 3: return club.texts.size;
            case 4: return club.seats.flights;
            case 5: return club.seats.asks;
            case 6: return club.seats.allWaiting();
            case 7: return club.offers.size;
            case 8: return waits;
            case 9: return tape.length;
            case 10: return club.today;
            default: return BAD;
        }
    }

    // ---- what arguments may be

    private static boolean within(int v, int least, int most) {
        return v >= least && v <= most;
    }

    private static int held(int v, int least, int most) {
        return Math.max(least, Math.min(most, v));
    }

    private static boolean isDay(int v) {
        return within(v, 0, MOST_DAY);
    }

    private static boolean isPartner(int v) {
        return within(v, 0, PARTNERS - 1);
    }

    private static boolean isSheet(int v) {
        return within(v, 0, SHEETS - 1);
    }

    /** As for a copy of a row: none may be copied from right behind the last place, too. */
    private static boolean isStretch(int place, int many, int size) {
        return within(place, 0, size) && within(many, 0, size - place);
    }

    private boolean isMember(int v) {
        return within(v, 0, club.members.size - 1);
    }

    private boolean isLine(int v) {
        return within(v, 0, club.lines.size - 1);
    }

    private boolean isFlight(int v) {
        return within(v, 0, club.seats.flights - 1);
    }

    private boolean isPast(int v) {
        return within(v, 0, club.today);
    }

    // ---- what an image keeps

    /** All that an image keeps: the live one and the image are two of these. */
    private static final class Club {
        final Members members = new Members();
        final Lines lines = new Lines();
        final Texts texts = new Texts();
        final Seats seats = new Seats();
        final Offers offers = new Offers();
        final int[] rules = {30, 90, 60};
        final int[] madeRate = {0, 10, 10, 10};
        final int[] givenRate = {0, 8, 8, 8};
        int today;

        int newLine(int kind, int member, int about, int amount, int other, int coins) {
            return lines.add(kind, member, about, today, amount, other, coins);
        }

        void become(Club from) {
            members.become(from.members);
            lines.become(from.lines);
            texts.become(from.texts);
            seats.become(from.seats);
            offers.become(from.offers);
            overwrite(rules, from.rules);
            overwrite(madeRate, from.madeRate);
            overwrite(givenRate, from.givenRate);
            today = from.today;
        }

        static void overwrite(int[] to, int[] from) {
            System.arraycopy(from, 0, to, 0, Math.min(from.length, to.length));
        }
    }

    private static final class Members {
        final int[] kind = new int[MOST_MEMBERS];
        final int[] marks = new int[MOST_MEMBERS];
        final int[] pool = new int[MOST_MEMBERS];
        int size;

        int enrol(int ofKind, int withMarks) {
            if (size >= MOST_MEMBERS) {
                return FULL;
            }
            kind[size] = ofKind;
            marks[size] = withMarks;
            pool[size] = NONE;
            size++;
            return size - 1;
        }

        boolean isOf(int member, int asked) {
            int own = kind[member];
            return asked == MEMBER || own == asked || (own == STAFF && asked == BEARER);
        }

        boolean shares(int member, int other) {
            return member == other || (pool[member] != NONE && pool[member] == pool[other]);
        }

        int ringAt(int i) {
            int seen = 0;
            int rings = 0;
            for (int least = 0; least < size; least++) {
                if ((seen >> least & 1) == 0) {
                    int together = hangingWith(least);
                    seen |= together;
                    if (Integer.bitCount(together) >= 3) {
                        if (rings == i) {
                            return together;
                        }
                        rings++;
                    }
                }
            }
            return NONE;
        }

        private int hangingWith(int member) {
            int together = 1 << member;
            int theirMarks = marks[member];
            // Each round but the last brings one more, so size rounds are enough.
            for (int round = 0; round < size; round++) {
                for (int i = 0; i < size; i++) {
                    if ((marks[i] & theirMarks) != 0) {
                        together |= 1 << i;
                        theirMarks |= marks[i];
                    }
                }
            }
            return together;
        }

        void become(Members from) {
            Club.overwrite(kind, from.kind);
            Club.overwrite(marks, from.marks);
            Club.overwrite(pool, from.pool);
            size = from.size;
        }
    }

    private static final class Lines {
        final int[] kind = new int[MOST_LINES];
        final int[] member = new int[MOST_LINES];
        final int[] about = new int[MOST_LINES];
        final int[] told = new int[MOST_LINES];
        final int[] withdrawn = new int[MOST_LINES];
        /** MILES, or LEG of a FLY. */
        final int[] amount = new int[MOST_LINES];
        /** CLASS and PARTNER as told, or the other MEMBER, or the SPEND. */
        final int[] other = new int[MOST_LINES];
        final int[] coins = new int[MOST_LINES];
        /** Numbers of LINES in the order in which they are gone through. */
        final int[] order = new int[MOST_LINES];
        int size;

        int add(int ofKind, int ofMember, int aboutDay, int today, int miles, int with, int paid) {
            if (size >= MOST_LINES) {
                return FULL;
            }
            kind[size] = ofKind;
            member[size] = ofMember;
            about[size] = aboutDay;
            told[size] = today;
            withdrawn[size] = NONE;
            amount[size] = miles;
            other[size] = with;
            coins[size] = paid;
            putInOrder(size);
            size++;
            return size - 1;
        }

        /** Kept in order as LINES are told, so that no call has to sort them. */
        private void putInOrder(int line) {
            int place = line;
            while (place > 0 && about[order[place - 1]] > about[line]) {
                order[place] = order[place - 1];
                place--;
            }
            order[place] = line;
        }

        boolean isKnown(int line, int day) {
            return told[line] <= day && (withdrawn[line] == NONE || withdrawn[line] > day);
        }

        int allWithdrawn() {
            int many = 0;
            for (int i = 0; i < size; i++) {
                if (withdrawn[i] != NONE) {
                    many++;
                }
            }
            return many;
        }

        void become(Lines from) {
            Club.overwrite(kind, from.kind);
            Club.overwrite(member, from.member);
            Club.overwrite(about, from.about);
            Club.overwrite(told, from.told);
            Club.overwrite(withdrawn, from.withdrawn);
            Club.overwrite(amount, from.amount);
            Club.overwrite(other, from.other);
            Club.overwrite(coins, from.coins);
            Club.overwrite(order, from.order);
            size = from.size;
        }
    }

    /** One TERMS, never changed once made: an image and the live club may share it. */
    private static final class Terms {
        final int day;
        /** The four E one behind another, operands first: a NUMBER as it is, a NAME or sign as its byte below 0. */
        final int[] code;
        final int[] ends;

        Terms(int fromDay, int[] ofCode, int[] ofEnds) {
            day = fromDay;
            code = ofCode;
            ends = ofEnds;
        }

        int begin(int part) {
            return part > 0 && part <= ends.length ? ends[part - 1] : 0;
        }

        int end(int part) {
            return part >= 0 && part < ends.length ? Math.min(ends[part], code.length) : 0;
        }
    }

    private static final class Texts {
        final Terms[] told = new Terms[MOST_TERMS];
        /** What holds without any, said as TERMS: earn l lapse 720 price l tier 0. */
        final Terms plain = new Terms(0, new int[] {-'l', 720, -'l', 0}, new int[] {1, 2, 3, 4});
        int size;

        void add(Terms terms) {
            if (size < MOST_TERMS) {
                told[size] = terms;
                size++;
            }
        }

        Terms inForce(int day) {
            Terms latest = plain;
            for (int i = 0; i < size; i++) {
                Terms one = told[i];
                if (one != null && one.day <= day && one.day >= latest.day) {
                    latest = one;
                }
            }
            return latest;
        }

        void become(Texts from) {
            for (int i = 0; i < MOST_TERMS; i++) {
                told[i] = from.told[i];
            }
            size = from.size;
        }
    }

    private static final class Seats {
        final int[] day = new int[MOST_FLIGHTS];
        final int[] leg = new int[MOST_FLIGHTS];
        final int[] partner = new int[MOST_FLIGHTS];
        final int[] open = new int[MOST_FLIGHTS];
        final int[] askMember = new int[MOST_ASKS];
        final int[] askFlight = new int[MOST_ASKS];
        final int[] askClass = new int[MOST_ASKS];
        /** What each ASK paid; NONE while it waits. */
        final int[] paid = new int[MOST_ASKS];
        int flights;
        int asks;

        int newFlight(int onDay, int ofLeg, int atPartner, int withSeats) {
            if (flights >= MOST_FLIGHTS) {
                return FULL;
            }
            day[flights] = onDay;
            leg[flights] = ofLeg;
            partner[flights] = atPartner;
            open[flights] = withSeats;
            flights++;
            return flights - 1;
        }

        int newAsk(int member, int flight, int clas) {
            if (asks >= MOST_ASKS) {
                return FULL;
            }
            askMember[asks] = member;
            askFlight[asks] = flight;
            askClass[asks] = clas;
            paid[asks] = NONE;
            asks++;
            return asks - 1;
        }

        int allWaiting() {
            int many = 0;
            for (int i = 0; i < asks; i++) {
                if (paid[i] == NONE) {
                    many++;
                }
            }
            return many;
        }

        void become(Seats from) {
            Club.overwrite(day, from.day);
            Club.overwrite(leg, from.leg);
            Club.overwrite(partner, from.partner);
            Club.overwrite(open, from.open);
            Club.overwrite(askMember, from.askMember);
            Club.overwrite(askFlight, from.askFlight);
            Club.overwrite(askClass, from.askClass);
            Club.overwrite(paid, from.paid);
            flights = from.flights;
            asks = from.asks;
        }
    }

    private static final class Offers {
        final int[] coins = new int[MOST_OFFERS];
        final int[] points = new int[MOST_OFFERS];
        final int[] times = new int[MOST_OFFERS];
        int size;

        int add(int forCoins, int ofPoints, int upTo) {
            if (size >= MOST_OFFERS) {
                return FULL;
            }
            coins[size] = forCoins;
            points[size] = ofPoints;
            times[size] = upTo;
            size++;
            return size - 1;
        }

        void become(Offers from) {
            Club.overwrite(coins, from.coins);
            Club.overwrite(points, from.points);
            Club.overwrite(times, from.times);
            size = from.size;
        }
    }

    // ---- how it stands

    /** How it stands for a DAY as known on another one; made anew by goThrough, in rows that are used again. */
    private static final class Ledger {
        final Figures figures = new Figures();
        /** LOTS in the order in which they are taken from. */
        final int[] lotMember = new int[MOST_LINES];
        final int[] lotMiles = new int[MOST_LINES];
        final int[] lotLapse = new int[MOST_LINES];
        final int[] points = new int[MOST_MEMBERS * YEARS];
        final int[] made = new int[PARTNERS];
        final int[] spent = new int[PARTNERS];
        final int[] brought = new int[MOST_LINES];
        /** 1: the SPEND is BACK. */
        final int[] isBack = new int[MOST_LINES];
        int lots;

        void goThrough(Club club, int day, int known) {
            lots = 0;
            Arrays.fill(points, 0);
            Arrays.fill(made, 0);
            Arrays.fill(spent, 0);
            Arrays.fill(brought, 0);
            Arrays.fill(isBack, 0);
            Lines lines = club.lines;
            for (int i = 0; i < lines.size; i++) {
                int line = lines.order[i];
                if (lines.about[line] <= day && lines.isKnown(line, known)) {
                    switch (lines.kind[line]) {
                        case FLY: brought[line] = bringFly(club, line); break;
                        case SPEND: brought[line] = bringSpend(club, line); break;
                        case GIFT: brought[line] = bringGift(club, line); break;
                        default: brought[line] = bringBack(club, line);
                    }
                }
            }
        }

        private int bringFly(Club club, int line) {
            Lines lines = club.lines;
            int member = lines.member[line];
            int day = lines.about[line];
            int how = lines.other[line];
            int tier = tierOf(club, member, day);
            Terms terms = club.texts.inForce(day);
            figures.forTrip(lines.amount[line], how / 10);
            figures.forMember(tier, club.members.kind[member]);
            figures.partner = how % 10;
            figures.coins = lines.coins[line];
            int miles = held(figures.workedOut(terms, EARN), 0, MOST_MILES);
            int life = MOST_LIFE;
            if (club.members.kind[member] != CHILD) {
                life = held(figures.workedOut(terms, LAPSE), 1, MOST_LIFE);
            }
            come(member, miles, day + life);
            points[member * YEARS + day / YEAR_DAYS] += miles;
            made[how % 10] += miles;
            return miles;
        }

        private int bringSpend(Club club, int line) {
            Lines lines = club.lines;
            int member = lines.member[line];
            int miles = lines.amount[line];
            int day = lines.about[line];
            if (there(club.members, member, true, day) < miles) {
                return 0;
            }
            take(club.members, member, true, day, miles);
            spent[lines.other[line]] += miles;
            return miles;
        }

        private int bringGift(Club club, int line) {
            Lines lines = club.lines;
            int member = lines.member[line];
            int miles = lines.amount[line];
            int day = lines.about[line];
            if (there(club.members, member, false, day) < miles) {
                return 0;
            }
            int lapse = take(club.members, member, false, day, miles);
            come(lines.other[line], miles, lapse);
            return miles;
        }

        private int bringBack(Club club, int line) {
            Lines lines = club.lines;
            int spend = lines.other[line];
            // A SPEND that is not known, or not ahead of this one, has brought nothing so far.
            int miles = brought[spend];
            if (miles <= 0 || isBack[spend] != 0) {
                return 0;
            }
            isBack[spend] = 1;
            come(lines.member[spend], miles, lines.about[line] + club.rules[GRACE]);
            spent[lines.other[spend]] -= miles;
            return miles;
        }

        /** Put behind those that lapse on the same DAY and are of the same MEMBER: it came later. */
        private void come(int member, int miles, int lapse) {
            if (lots >= MOST_LINES) {
                return;
            }
            int place = lots;
            while (place > 0 && isAhead(member, lapse, place - 1)) {
                lotMember[place] = lotMember[place - 1];
                lotMiles[place] = lotMiles[place - 1];
                lotLapse[place] = lotLapse[place - 1];
                place--;
            }
            lotMember[place] = member;
            lotMiles[place] = miles;
            lotLapse[place] = lapse;
            lots++;
        }

        private boolean isAhead(int member, int lapse, int lot) {
            return lapse < lotLapse[lot] || (lapse == lotLapse[lot] && member < lotMember[lot]);
        }

        private boolean isFor(Members members, int member, boolean pooled, int lot) {
            return lotMember[lot] == member || (pooled && members.shares(member, lotMember[lot]));
        }

        int there(Members members, int member, boolean pooled, int day) {
            int miles = 0;
            for (int lot = 0; lot < lots; lot++) {
                if (lotLapse[lot] > day && isFor(members, member, pooled, lot)) {
                    miles += lotMiles[lot];
                }
            }
            return miles;
        }

        /** Answers the DAY on which the first of what was taken would lapse. */
        int take(Members members, int member, boolean pooled, int day, int miles) {
            int left = miles;
            int first = NONE;
            for (int lot = 0; lot < lots && left > 0; lot++) {
                if (lotMiles[lot] > 0 && lotLapse[lot] > day && isFor(members, member, pooled, lot)) {
                    int part = Math.min(left, lotMiles[lot]);
                    lotMiles[lot] -= part;
                    left -= part;
                    first = first == NONE ? lotLapse[lot] : first;
                }
            }
            return first;
        }

        /** MILES left of a MEMBER that lapse on one of these DAYS. */
        int lapsing(int member, int from, int to) {
            int miles = 0;
            for (int lot = 0; lot < lots; lot++) {
                if (lotMember[lot] == member && within(lotLapse[lot], from, to)) {
                    miles += lotMiles[lot];
                }
            }
            return miles;
        }

        int pointsOf(int member, int year) {
            return within(year, 0, YEARS - 1) ? points[member * YEARS + year] : 0;
        }

        int tierOf(Club club, int member, int day) {
            Terms terms = club.texts.inForce(day);
            int year = day / YEAR_DAYS;
            int least = club.members.kind[member] == STAFF ? 1 : 0;
            int now = tierBy(terms, pointsOf(member, year));
            int ahead = tierBy(terms, pointsOf(member, year - 1));
            return Math.max(least, Math.max(now, ahead));
        }

        private int tierBy(Terms terms, int q) {
            figures.points = q;
            return held(figures.workedOut(terms, TIER), 0, MOST_TIER);
        }

        int priceOf(Club club, int ask, int tier) {
            Seats seats = club.seats;
            int flight = seats.askFlight[ask];
            figures.forTrip(seats.leg[flight], seats.askClass[ask]);
            figures.forMember(tier, club.members.kind[seats.askMember[ask]]);
            figures.open = seats.open[flight];
            figures.ahead = seats.day[flight] - club.today;
            return held(figures.workedOut(club.texts.inForce(club.today), PRICE), 0, MOST_MILES);
        }
    }

    /** What the NAMES stand for, and the working out of an E with them. */
    private static final class Figures {
        final int[] stack = new int[MOST_BYTES];
        int top;
        int leg;
        int clas;
        int partner;
        int coins;
        int open;
        int ahead;
        int tier;
        int kind;
        int points;

        void forTrip(int ofLeg, int ofClass) {
            leg = ofLeg;
            clas = ofClass;
        }

        void forMember(int ofTier, int ofKind) {
            tier = ofTier;
            kind = ofKind;
        }

        int workedOut(Terms terms, int part) {
            top = 0;
            int end = terms.end(part);
            for (int i = terms.begin(part); i < end; i++) {
                int one = terms.code[i];
                if (one >= 0) {
                    push(one);
                } else if (within(-one, 'a', 'z')) {
                    push(named(-one));
                } else if (one == -'!') {
                    push(pop() == 0 ? 1 : 0);
                } else {
                    int right = pop();
                    push(joined(-one, pop(), right));
                }
            }
            return pop();
        }

        private void push(int v) {
            if (top < stack.length) {
                stack[top] = v;
                top++;
            }
        }

        private int pop() {
            if (top <= 0) {
                return 0;
            }
            top--;
            return stack[top];
        }

        private int named(int letter) {
            switch (letter) {
                case 'l': return leg;
                case 'f': return clas;
                case 'p': return partner;
                case 'c': return coins;
                case 'o': return open;
                case 'd': return ahead;
                case 't': return tier;
                case 'k': return kind;
                default: return points;
            }
        }

        private static int joined(int sign, int a, int b) {
            switch (sign) {
                case '|': return a != 0 || b != 0 ? 1 : 0;
                case '&': return a != 0 && b != 0 ? 1 : 0;
                case '<': return a < b ? 1 : 0;
                case '=': return a == b ? 1 : 0;
                case '>': return a > b ? 1 : 0;
                case '+': return a + b;
                case '-': return a - b;
                case '*': return a * b;
                default: return b == 0 ? 0 : a / b;
            }
        }
    }

    // ---- texts

    /** THE TAPE, and the reading of TERMS from it. */
    private static final class Tape {
        private static final int END = 0, LETTERS = 1, DIGITS = 2, SIGN = 3;
        private static final int OR = 0, AND = 1, TEST = 2, SUM = 3, TERM = 4, PART = 5;
        private static final int MOST_DIGITS = 5, MOST_OPEN = 8;

        final byte[] bytes = new byte[MOST_BYTES];
        final int[] code = new int[MOST_BYTES];
        final int[] ends = new int[PARTS];
        int length;
        /** How many bytes the text has that is read; THE TAPE has none by then. */
        private int text;
        /** NUMBERS and NAMES read. */
        int counted;
        /** Where the word or sign begins that is looked at: where reading stopped, it is the fault. */
        int start;
        private int end;
        private int kind;
        private boolean needsBlank;
        private int used;
        private int parens;
        private int bangs;
        private String names = "";

        void put(int four) {
            for (int shift = 24; shift >= 0 && length < MOST_BYTES; shift -= 8) {
                bytes[length] = (byte) (four >> shift);
                length++;
            }
        }

        void useUp() {
            text = length;
            length = 0;
        }

        Terms termsFrom(int day) {
            return new Terms(day, Arrays.copyOf(code, used), Arrays.copyOf(ends, PARTS));
        }

        boolean isTerms() {
            counted = 0;
            used = 0;
            parens = 0;
            bangs = 0;
            end = 0;
            kind = END;
            next();
            for (int part = 0; part < PARTS; part++) {
                if (!isWord(wordOf(part))) {
                    return false;
                }
                next();
                names = namesOf(part);
                if (!isJoined(OR)) {
                    return false;
                }
                ends[part] = used;
            }
            return kind == END;
        }

        private static String wordOf(int part) {
            switch (part) {
                case EARN: return "earn";
                case LAPSE: return "lapse";
                case PRICE: return "price";
                default: return "tier";
            }
        }

        private static String namesOf(int part) {
            switch (part) {
                case EARN: return "lfpctk";
                case LAPSE: return "tk";
                case PRICE: return "lfodtk";
                default: return "q";
            }
        }

        private static String signsOf(int level) {
            switch (level) {
                case OR: return "|";
                case AND: return "&";
                case TEST: return "<=>";
                case SUM: return "+-";
                default: return "*/";
            }
        }

        private void next() {
            int from = end;
            boolean behindWord = isWordKind();
            start = behindBlanks(from);
            kind = kindAt(start);
            end = behindKind(start);
            needsBlank = behindWord && isWordKind() && start == from;
        }

        private boolean isWordKind() {
            return kind == LETTERS || kind == DIGITS;
        }

        private int behindBlanks(int from) {
            int place = from;
            while (place < text && bytes[place] == ' ') {
                place++;
            }
            return place;
        }

        private int behindKind(int from) {
            int place = Math.min(from + 1, text);
            while (place < text && isWordKind() && kindAt(place) == kind) {
                place++;
            }
            return place;
        }

        private int kindAt(int place) {
            if (place >= text) {
                return END;
            }
            int one = bytes[place];
            if (one >= 'a' && one <= 'z') {
                return LETTERS;
            }
            return one >= '0' && one <= '9' ? DIGITS : SIGN;
        }

        private char letter() {
            return start < text ? (char) (bytes[start] & 255) : ' ';
        }

        private boolean isWord(String word) {
            if (kind != LETTERS || needsBlank || end - start != word.length()) {
                return false;
            }
            for (int i = 0; i < word.length(); i++) {
                if (bytes[start + i] != word.charAt(i)) {
                    return false;
                }
            }
            return true;
        }

        private boolean isSignOf(String signs) {
            return kind == SIGN && signs.indexOf(letter()) >= 0;
        }

        /** One level of E and all that bind tighter; the 8 that may be open of each keep this low. */
        private boolean isJoined(int level) {
            if (level >= PART) {
                return isPart();
            }
            if (!isJoined(level + 1)) {
                return false;
            }
            int most = level == TEST ? 1 : MOST_BYTES;
            for (int i = 0; i < most && isSignOf(signsOf(level)); i++) {
                int sign = letter();
                next();
                if (!isJoined(level + 1)) {
                    return false;
                }
                emit(-sign);
            }
            return true;
        }

        private boolean isPart() {
            if (isSignOf("!")) {
                return isNot();
            }
            if (isSignOf("(")) {
                return isInParens();
            }
            return isNumberOrName();
        }

        private boolean isNot() {
            if (bangs >= MOST_OPEN) {
                return false;
            }
            bangs++;
            next();
            if (!isPart()) {
                return false;
            }
            emit(-'!');
            bangs--;
            return true;
        }

        private boolean isInParens() {
            if (parens >= MOST_OPEN) {
                return false;
            }
            parens++;
            next();
            if (!isJoined(OR) || !isSignOf(")")) {
                return false;
            }
            next();
            parens--;
            return true;
        }

        private boolean isNumberOrName() {
            if (needsBlank) {
                return false;
            }
            if (kind == DIGITS && end - start <= MOST_DIGITS) {
                emit(number());
            } else if (kind == LETTERS && end - start == 1 && names.indexOf(letter()) >= 0) {
                emit(-letter());
            } else {
                return false;
            }
            counted++;
            next();
            return true;
        }

        private int number() {
            int v = 0;
            for (int i = start; i < end; i++) {
                v = v * 10 + bytes[i] - '0';
            }
            return v;
        }

        private void emit(int one) {
            if (used < MOST_BYTES) {
                code[used] = one;
                used++;
            }
        }
    }

    // ---- ways

    /** THE WAY to so many POINTS; what is worked out is kept while the OFFERS stay as they are. */
    private static final class Ways {
        /** One number tells a whole WAY, the less the better: COINS, then takings, then what each OFFER has left of 9. */
        private static final long COIN = 1L << 40, TAKING = 1L << 32, NONE_TAKEN = 0x99999999L, NO_WAY = 1L << 62;
        private static final int DIGIT = 4, MOST_TIMES = 9;

        /** The best WAY to each number of POINTS. */
        final long[] best = new long[MOST_POINTS + 1];
        private int solved = -1;

        void forget() {
            solved = -1;
        }

        boolean isFound(Offers offers, int n) {
            if (n > solved) {
                // Who asks for more and more is not to have it solved for each.
                solved = solved < 0 ? n : MOST_POINTS;
                solve(offers, solved);
            }
            return best[n] != NO_WAY;
        }

        int coinsTo(int n) {
            return (int) (best[n] / COIN);
        }

        int timesOf(int n, int offer) {
            return MOST_TIMES - (int) (best[n] >> placeOf(offer) & 15);
        }

        private void solve(Offers offers, int most) {
            Arrays.fill(best, NO_WAY);
            best[0] = NONE_TAKEN;
            for (int offer = 0; offer < offers.size; offer++) {
                int left = offers.times[offer];
                // Packs of 1, 2, 4 and the rest make up every number of takings.
                for (int pack = 1; pack <= offers.times[offer]; pack *= 2) {
                    int many = Math.min(pack, left);
                    addPack(most, many * offers.points[offer], many * weight(offers, offer));
                    left -= many;
                }
            }
        }

        /** From the top down, so that a pack is taken once. */
        private void addPack(int most, int points, long weight) {
            for (int n = most; n > 0; n--) {
                long with = best[n > points ? n - points : 0] + weight;
                if (with < best[n]) {
                    best[n] = with;
                }
            }
        }

        private static long weight(Offers offers, int offer) {
            return offers.coins[offer] * COIN + TAKING - (1L << placeOf(offer));
        }

        /** OFFER 0 has the highest digit: to take it more often counts most. */
        private static int placeOf(int offer) {
            return DIGIT * (MOST_OFFERS - 1 - offer);
        }
    }
}
