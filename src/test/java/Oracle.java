import java.util.ArrayList;
import java.util.Arrays;
import java.util.Comparator;
import java.util.List;

/** The document said a second time, in its plainest form and with another reader of TERMS, to compare with. */
public final class Oracle {
    private static final int BAD = -1000000001, NO = -1000000002, FULL = -1000000003, NONE = -1000000005;
    private static final int NOTHING = -1000000011, INDEX = -1000000013, SIZE = -1000000014;

    record Line(int number, int kind, int member, int about, int told, int withdrawn, int amount, int other, int coins) { }
    record Law(int day, List<List<String>> parts) { }
    record Flight(int day, int leg, int partner, int open) { }
    record Ask(int member, int flight, int clas, int paid) { }
    record Offer(int coins, int points, int times) { }

    static final class Lot {
        int member;
        int miles;
        int lapse;
        int came;
    }

    static final class State {
        int today;
        int[] rules = {30, 90, 60};
        int[][] rates = {{0, 10, 10, 10}, {0, 8, 8, 8}};
        List<int[]> members = new ArrayList<>();
        List<Line> lines = new ArrayList<>();
        List<Law> laws = new ArrayList<>();
        List<Flight> flights = new ArrayList<>();
        List<Ask> asks = new ArrayList<>();
        List<Offer> offers = new ArrayList<>();

        State copied() {
            State s = new State();
            s.today = today;
            s.rules = rules.clone();
            s.rates = new int[][] {rates[0].clone(), rates[1].clone()};
            for (int[] one : members) {
                s.members.add(one.clone());
            }
            s.lines.addAll(lines);
            s.laws.addAll(laws);
            s.flights.addAll(flights);
            s.asks.addAll(asks);
            s.offers.addAll(offers);
            return s;
        }
    }

    /** How it stands. */
    final class View {
        List<Lot> lots = new ArrayList<>();
        int[][] points = new int[10][5];
        int[] made = new int[4];
        int[] spent = new int[4];
        int[] brought = new int[100];
        List<Integer> returned = new ArrayList<>();

        View(int day, int known) {
            List<Line> row = new ArrayList<>();
            for (Line line : s.lines) {
                if (isKnown(line, known) && line.about <= day) {
                    row.add(line);
                }
            }
            row.sort(Comparator.comparingInt(Line::about).thenComparingInt(Line::number));
            for (Line line : row) {
                brought[line.number] = go(line);
            }
        }

        int go(Line line) {
            int kind = s.members.get(line.member)[0];
            if (line.kind == 0) {
                int tier = tier(line.member, line.about);
                Names names = new Names();
                names.put('l', line.amount).put('f', line.other / 10).put('p', line.other % 10);
                names.put('c', line.coins).put('t', tier).put('k', kind);
                int miles = hold(give(line.about, 0, names, line.amount), 0, 99999);
                int life = kind == 1 ? 9999 : hold(give(line.about, 1, names, 720), 1, 9999);
                lot(line.member, miles, line.about + life);
                points[line.member][line.about / 360] += miles;
                made[line.other % 10] += miles;
                return miles;
            }
            if (line.kind == 1) {
                if (take(line.member, true, line.about, line.amount) == null) {
                    return 0;
                }
                spent[line.other] += line.amount;
                return line.amount;
            }
            if (line.kind == 2) {
                Integer lapse = take(line.member, false, line.about, line.amount);
                if (lapse == null) {
                    return 0;
                }
                lot(line.other, line.amount, lapse);
                return line.amount;
            }
            Line spend = s.lines.get(line.other);
            if (brought[spend.number] == 0 || returned.contains(spend.number)) {
                return 0;
            }
            returned.add(spend.number);
            lot(spend.member, spend.amount, line.about + s.rules[1]);
            spent[spend.other] -= spend.amount;
            return spend.amount;
        }

        void lot(int member, int miles, int lapse) {
            Lot lot = new Lot();
            lot.member = member;
            lot.miles = miles;
            lot.lapse = lapse;
            lot.came = lots.size();
            lots.add(lot);
        }

        Integer take(int member, boolean pooled, int day, int miles) {
            int pool = s.members.get(member)[2];
            List<Lot> there = new ArrayList<>();
            int sum = 0;
            for (Lot lot : lots) {
                boolean with = lot.member == member || pooled && pool != NONE && s.members.get(lot.member)[2] == pool;
                if (with && day < lot.lapse && lot.miles > 0) {
                    there.add(lot);
                    sum += lot.miles;
                }
            }
            if (sum < miles) {
                return null;
            }
            there.sort(Comparator.<Lot>comparingInt(l -> l.lapse).thenComparingInt(l -> l.member).thenComparingInt(l -> l.came));
            int left = miles;
            for (Lot lot : there) {
                int part = Math.min(left, lot.miles);
                lot.miles -= part;
                left -= part;
            }
            return there.get(0).lapse;
        }

        int tier(int member, int day) {
            int year = day / 360;
            int now = hold(give(day, 3, new Names().put('q', points[member][year]), 0), 0, 3);
            int before = hold(give(day, 3, new Names().put('q', year == 0 ? 0 : points[member][year - 1]), 0), 0, 3);
            return Math.max(Math.max(now, before), s.members.get(member)[0] == 3 ? 1 : 0);
        }
    }

    static final class Names {
        final int[] values = new int[128];

        Names put(char name, int v) {
            values[name] = v;
            return this;
        }
    }

    State s = new State();
    State image;
    List<Integer> waiting = new ArrayList<>();
    List<Integer> tape = new ArrayList<>();
    short[][] sheets = new short[2][];

    static boolean in(int v, int a, int b) {
        return a <= v && v <= b;
    }

    static int hold(int v, int a, int b) {
        return v < a ? a : v > b ? b : v;
    }

    boolean noMember(int m) {
        return !in(m, 0, s.members.size() - 1);
    }

    static boolean isKnown(Line line, int day) {
        return line.told <= day && !(line.withdrawn != NONE && line.withdrawn <= day);
    }

    public int member(int kind, int marks) {
        if (!in(kind, 0, 3) || !in(marks, 0, 4095)) return BAD;
        if (s.members.size() == 10) return FULL;
        s.members.add(new int[] {kind, marks, NONE});
        return s.members.size() - 1;
    }

    public int is(int member, int kind) {
        if (noMember(member) || !in(kind, 0, 3)) return BAD;
        int own = s.members.get(member)[0];
        return kind == 0 || kind == own || own == 3 && kind == 2 ? 1 : 0;
    }

    public int pool(int member, int pool) {
        if (noMember(member) || !in(pool, 0, 2) && pool != NONE) return BAD;
        int was = s.members.get(member)[2];
        s.members.get(member)[2] = pool;
        return was;
    }

    public int marks(int member, int v) {
        if (noMember(member) || !in(v, 0, 4095)) return BAD;
        int was = s.members.get(member)[1];
        s.members.get(member)[1] = v;
        return was;
    }

    public int lay(int sheet) {
        if (!in(sheet, 0, 1)) return BAD;
        if (sheets[sheet] == null) return NOTHING;
        int i = 0;
        for (; i < s.members.size() && i < sheets[sheet].length; i++) {
            s.members.get(i)[1] = in(sheets[sheet][i], 0, 4095) ? sheets[sheet][i] : 0;
        }
        return i;
    }

    public int days(int n) {
        if (!in(n, 1, 100) || s.today + n > 1200) return BAD;
        return s.today += n;
    }

    public int rule(int which, int v) {
        if (!in(which, 0, 2) || !in(v, which == 1 ? 1 : 0, which == 0 ? 360 : 999)) return BAD;
        int was = s.rules[which];
        s.rules[which] = v;
        return was;
    }

    int told(int kind, int member, int about, int amount, int other, int coins) {
        if (s.lines.size() == 100) return FULL;
        s.lines.add(new Line(s.lines.size(), kind, member, about, s.today, NONE, amount, other, coins));
        return s.lines.size() - 1;
    }

    public int fly(int member, int about, int leg, int how, int coins) {
        boolean good = false;
        for (int clas = 0; clas < 4; clas++) {
            for (int partner = 0; partner < 4; partner++) {
                good |= how == 10 * clas + partner;
            }
        }
        if (!good || noMember(member) || !in(about, 0, s.today) || !in(leg, 1, 9999) || !in(coins, 0, 9999)) return BAD;
        return told(0, member, about, leg, how, coins);
    }

    public int spend(int member, int about, int miles, int partner) {
        if (noMember(member) || !in(about, 0, s.today) || !in(miles, 1, 99999) || !in(partner, 0, 3)) return BAD;
        return told(1, member, about, miles, partner, 0);
    }

    public int gift(int member, int about, int miles, int other) {
        if (noMember(member) || !in(about, 0, s.today) || !in(miles, 1, 99999)) return BAD;
        if (noMember(other) || other == member) return BAD;
        return told(2, member, about, miles, other, 0);
    }

    public int back(int line, int about) {
        if (!in(line, 0, s.lines.size() - 1) || !in(about, 0, s.today)) return BAD;
        Line spend = s.lines.get(line);
        if (spend.kind != 1 || about < spend.about) return BAD;
        return told(3, spend.member, about, spend.amount, line, 0);
    }

    public int withdraw(int line) {
        if (!in(line, 0, s.lines.size() - 1)) return BAD;
        Line l = s.lines.get(line);
        if (l.withdrawn != NONE) return NO;
        s.lines.set(line, new Line(l.number, l.kind, l.member, l.about, l.told, s.today, l.amount, l.other, l.coins));
        return 1;
    }

    public int line(int line, int what) {
        if (!in(line, 0, s.lines.size() - 1) || !in(what, 0, 6)) return BAD;
        Line l = s.lines.get(line);
        return new int[] {l.kind, l.member, l.about, l.told, l.withdrawn, l.amount, l.other}[what];
    }

    public int stands(int member, int day, int known, int what) {
        if (noMember(member) || !in(day, 0, 1200) || !in(known, 0, 1200) || !in(what, 0, 4)) return BAD;
        View v = new View(day, known);
        int there = 0;
        int soon = 0;
        int lapsed = 0;
        for (Lot lot : v.lots) {
            if (lot.member == member) {
                if (lot.lapse > day) {
                    there += lot.miles;
                    soon += lot.lapse - day <= s.rules[2] ? lot.miles : 0;
                } else {
                    lapsed += lot.miles;
                }
            }
        }
        return new int[] {there, v.points[member][day / 360], v.tier(member, day), soon, lapsed}[what];
    }

    public int brought(int line, int day, int known) {
        if (!in(line, 0, s.lines.size() - 1) || !in(day, 0, 1200) || !in(known, 0, 1200)) return BAD;
        if (!isKnown(s.lines.get(line), known) || s.lines.get(line).about > day) return NO;
        return new View(day, known).brought[line];
    }

    public int owes(int partner, int day, int known) {
        if (!in(partner, 1, 3) || !in(day, 0, 1200) || !in(known, 0, 1200)) return BAD;
        View v = new View(day, known);
        long made = (long) v.made[partner] * s.rates[0][partner] / 1000;
        long spent = (long) v.spent[partner] * s.rates[1][partner] / 1000;
        return (int) (made - spent);
    }

    public int rate(int partner, int which, int v) {
        if (!in(partner, 1, 3) || !in(which, 0, 1) || !in(v, 0, 999)) return BAD;
        int was = s.rates[which][partner];
        s.rates[which][partner] = v;
        return was;
    }

    public int feed(int a, int b, int c) {
        if (tape.size() + 12 > 132) return FULL;
        for (int v : new int[] {a, b, c}) {
            tape.add(v >>> 24);
            tape.add(v >>> 16 & 255);
            tape.add(v >>> 8 & 255);
            tape.add(v & 255);
        }
        return tape.size();
    }

    public int trim(int n) {
        if (!in(n, 0, tape.size())) return BAD;
        tape = new ArrayList<>(tape.subList(0, n));
        return n;
    }

    public int terms(int day) {
        List<Integer> text = tape;
        tape = new ArrayList<>();
        if (!in(day, 0, 1200)) return BAD;
        if (!(day >= s.today + s.rules[0] || day == 0 && s.today == 0)) return NO;
        Text read = new Text(text);
        if (read.fault >= 0) return -100 - read.fault;
        if (s.laws.size() == 4) return FULL;
        s.laws.add(new Law(day, read.parts));
        return read.operands;
    }

    /** Reads by what may stand next, not by the grammar's levels. */
    static final class Text {
        static final String[] WORDS = {"earn", "lapse", "price", "tier"};
        static final String[] NAMES = {"lfpctk", "tk", "lfodtk", "q"};
        int fault = -1;
        int operands;
        final List<List<String>> parts = new ArrayList<>();
        private final List<int[]> open = new ArrayList<>();
        private int bangs;
        private boolean compared;
        private boolean wantsOperand;

        Text(List<Integer> bytes) {
            StringBuilder text = new StringBuilder();
            for (int b : bytes) {
                text.append((char) b);
            }
            int at = 0;
            String before = "";
            int endBefore = -1;
            while (at < text.length()) {
                if (text.charAt(at) == ' ') {
                    at++;
                    continue;
                }
                int end = at + 1;
                String set = letters(text.charAt(at)) ? "[a-z]+" : "[0-9]+";
                while (end < text.length() && text.substring(at, end + 1).matches(set)) {
                    end++;
                }
                String one = text.substring(at, end);
                boolean glued = endBefore == at && one.matches("[a-z]+|[0-9]+") && before.matches("[a-z]+|[0-9]+");
                if (glued || !takes(one)) {
                    fault = at;
                    return;
                }
                before = one;
                endBefore = end;
                at = end;
            }
            if (parts.size() < 4 || wantsOperand || !open.isEmpty()) {
                fault = text.length();
            }
        }

        private static boolean letters(char c) {
            return c >= 'a' && c <= 'z';
        }

        private int allBangs() {
            int all = bangs;
            for (int[] one : open) {
                all += one[0];
            }
            return all;
        }

        private boolean takes(String one) {
            int part = parts.size() - 1;
            boolean atEnd = !wantsOperand && open.isEmpty();
            if (part < 0 || atEnd && part < 3 && one.equals(WORDS[part + 1])) {
                if (!one.equals(WORDS[part + 1])) {
                    return false;
                }
                parts.add(new ArrayList<>());
                wantsOperand = true;
                compared = false;
                return true;
            }
            boolean good = wantsOperand ? takesOperand(one, NAMES[part]) : takesOperator(one);
            if (good) {
                parts.get(part).add(one);
            }
            return good;
        }

        private boolean takesOperand(String one, String names) {
            if (one.equals("!")) {
                bangs++;
                return allBangs() <= 8;
            }
            if (one.equals("(")) {
                open.add(new int[] {bangs, compared ? 1 : 0});
                bangs = 0;
                compared = false;
                return open.size() <= 8;
            }
            boolean good = one.matches("[0-9]{1,5}") || one.length() == 1 && names.contains(one);
            operands += good ? 1 : 0;
            bangs = 0;
            wantsOperand = false;
            return good;
        }

        private boolean takesOperator(String one) {
            if (one.equals(")") && !open.isEmpty()) {
                int[] outer = open.remove(open.size() - 1);
                bangs = 0;
                compared = outer[1] == 1;
                return true;
            }
            wantsOperand = true;
            if (one.equals("|") || one.equals("&")) {
                compared = false;
                return true;
            }
            if (one.equals("<") || one.equals("=") || one.equals(">")) {
                boolean good = !compared;
                compared = true;
                return good;
            }
            return one.length() == 1 && "+-*/".contains(one);
        }
    }

    int give(int day, int part, Names names, int without) {
        Law law = null;
        for (Law one : s.laws) {
            if (one.day <= day && (law == null || one.day >= law.day)) {
                law = one;
            }
        }
        return law == null ? without : value(law.parts.get(part), names);
    }

    /** Split at the last sign of the loosest level there is outside of parentheses. */
    static int value(List<String> e, Names names) {
        for (String level : new String[] {"|", "&", "<=>", "+-", "*/"}) {
            int depth = 0;
            for (int i = e.size() - 1; i >= 0; i--) {
                String one = e.get(i);
                depth += one.equals(")") ? 1 : one.equals("(") ? -1 : 0;
                if (depth == 0 && level.contains(one)) {
                    int a = value(e.subList(0, i), names);
                    int b = value(e.subList(i + 1, e.size()), names);
                    return joined(one, a, b);
                }
            }
        }
        if (e.get(0).equals("!")) {
            return value(e.subList(1, e.size()), names) == 0 ? 1 : 0;
        }
        if (e.get(0).equals("(")) {
            return value(e.subList(1, e.size() - 1), names);
        }
        char c = e.get(0).charAt(0);
        return c >= 'a' ? names.values[c] : Integer.parseInt(e.get(0));
    }

    static int joined(String sign, int a, int b) {
        boolean x = a != 0;
        boolean y = b != 0;
        return switch (sign) {
            case "|" -> x | y ? 1 : 0;
            case "&" -> x & y ? 1 : 0;
            case "<" -> a < b ? 1 : 0;
            case "=" -> a == b ? 1 : 0;
            case ">" -> a > b ? 1 : 0;
            case "+" -> a + b;
            case "-" -> a - b;
            case "*" -> a * b;
            default -> b == 0 ? 0 : a / b;
        };
    }

    public int flight(int day, int leg, int partner, int seats) {
        if (!in(day, s.today + 1, 1200) || !in(leg, 1, 9999) || !in(partner, 0, 3) || !in(seats, 0, 9)) return BAD;
        if (s.flights.size() == 8) return FULL;
        s.flights.add(new Flight(day, leg, partner, seats));
        return s.flights.size() - 1;
    }

    public int ask(int member, int flight, int clas) {
        if (noMember(member) || !in(flight, 0, s.flights.size() - 1) || !in(clas, 0, 3)) return BAD;
        if (s.flights.get(flight).day <= s.today) return NO;
        if (s.asks.size() == 30) return FULL;
        s.asks.add(new Ask(member, flight, clas, NONE));
        return s.asks.size() - 1;
    }

    public int settle(int flight) {
        if (!in(flight, 0, s.flights.size() - 1)) return BAD;
        if (s.flights.get(flight).day <= s.today) return NO;
        View start = new View(s.today, s.today);
        List<int[]> row = new ArrayList<>();
        for (int i = 0; i < s.asks.size(); i++) {
            if (s.asks.get(i).flight == flight && s.asks.get(i).paid == NONE) {
                row.add(new int[] {start.tier(s.asks.get(i).member, s.today), i});
            }
        }
        row.sort((a, b) -> a[0] != b[0] ? b[0] - a[0] : a[1] - b[1]);
        int given = 0;
        for (int[] one : row) {
            Flight f = s.flights.get(flight);
            Ask ask = s.asks.get(one[1]);
            if (f.open == 0 || s.lines.size() == 100) {
                break;
            }
            Names names = new Names().put('l', f.leg).put('f', ask.clas).put('o', f.open).put('d', f.day - s.today);
            names.put('t', one[0]).put('k', s.members.get(ask.member)[0]);
            int price = hold(give(s.today, 2, names, f.leg), 0, 99999);
            if (price > 0) {
                // Told on trial: it stands if it brings something.
                int line = told(1, ask.member, s.today, price, f.partner, 0);
                if (new View(s.today, s.today).brought[line] == 0) {
                    s.lines.remove(line);
                    continue;
                }
            }
            s.asks.set(one[1], new Ask(ask.member, flight, ask.clas, price));
            s.flights.set(flight, new Flight(f.day, f.leg, f.partner, f.open - 1));
            given++;
        }
        return given;
    }

    public int asked(int ask, int what) {
        if (!in(ask, 0, s.asks.size() - 1) || !in(what, 0, 4)) return BAD;
        Ask a = s.asks.get(ask);
        return new int[] {a.member, a.flight, a.clas, a.paid != NONE ? 1 : 0, a.paid}[what];
    }

    public int open(int flight) {
        return in(flight, 0, s.flights.size() - 1) ? s.flights.get(flight).open : BAD;
    }

    public int offer(int coins, int points, int times) {
        if (!in(coins, 1, 9999) || !in(points, 1, 999) || !in(times, 1, 9)) return BAD;
        if (s.offers.size() == 8) return FULL;
        s.offers.add(new Offer(coins, points, times));
        return s.offers.size() - 1;
    }

    public int clear() {
        int was = s.offers.size();
        s.offers.clear();
        return was;
    }

    /** Coins, takings, then how often each is taken, of the best way with OFFERS up to each one; null: none. */
    int[] best(int n) {
        int[][] best = new int[n + 1][];
        best[0] = new int[2 + s.offers.size()];
        for (int i = 0; i < s.offers.size(); i++) {
            Offer o = s.offers.get(i);
            int[][] next = new int[n + 1][];
            for (int p = 0; p <= n; p++) {
                for (int k = 0; best[p] != null && k <= o.times; k++) {
                    int to = Math.min(n, p + k * o.points);
                    int[] way = best[p].clone();
                    way[0] += k * o.coins;
                    way[1] += k;
                    way[2 + i] = k;
                    if (next[to] == null || better(way, next[to])) {
                        next[to] = way;
                    }
                }
            }
            best = next;
        }
        return best[n];
    }

    static boolean better(int[] a, int[] b) {
        if (a[0] != b[0]) return a[0] < b[0];
        if (a[1] != b[1]) return a[1] < b[1];
        return Arrays.compare(a, b) > 0;
    }

    public int way(int n) {
        if (!in(n, 0, 3000)) return BAD;
        int[] best = best(n);
        return best == null ? NO : best[0];
    }

    public int taken(int n, int offer) {
        if (!in(n, 0, 3000) || !in(offer, 0, s.offers.size() - 1)) return BAD;
        int[] best = best(n);
        return best == null ? NO : best[2 + offer];
    }

    public int tell(int v) {
        if (waiting.size() == 16) return FULL;
        waiting.add(v);
        return waiting.size();
    }

    public int check(int n) {
        List<Integer> told = waiting;
        waiting = new ArrayList<>();
        if (!in(n, 0, 3000)) return BAD;
        int[] best = best(n);
        if (best == null) return NO;
        List<Integer> rows = new ArrayList<>();
        for (int i = 2; i < best.length; i++) {
            rows.add(best[i]);
        }
        if (rows.equals(told)) return 0;
        int i = 0;
        while (i < rows.size() && i < told.size() && rows.get(i).equals(told.get(i))) {
            i++;
        }
        return 1 + i;
    }

    public int ring(int i) {
        if (i < 0) return BAD;
        int n = s.members.size();
        boolean[][] hang = new boolean[n][n];
        for (int a = 0; a < n; a++) {
            for (int b = 0; b < n; b++) {
                hang[a][b] = a == b || (s.members.get(a)[1] & s.members.get(b)[1]) != 0;
            }
        }
        for (int m = 0; m < n; m++) {
            for (int a = 0; a < n; a++) {
                for (int b = 0; b < n; b++) {
                    hang[a][b] |= hang[a][m] && hang[m][b];
                }
            }
        }
        List<Integer> rings = new ArrayList<>();
        for (int a = 0; a < n; a++) {
            int bits = 0;
            for (int b = 0; b < n; b++) {
                bits |= hang[a][b] ? 1 << b : 0;
            }
            if (Integer.bitCount(bits) >= 3 && !rings.contains(bits)) {
                rings.add(bits);
            }
        }
        return i < rings.size() ? rings.get(i) : NONE;
    }

    public int keep() {
        image = s.copied();
        return s.today;
    }

    public int again() {
        if (image == null) return NO;
        s = image.copied();
        return s.today;
    }

    public int sheet(int sheet, int n) {
        if (!in(sheet, 0, 1) || n > 16) return BAD;
        if (n < 0) return SIZE;
        sheets[sheet] = new short[n];
        return n;
    }

    public int mark(int sheet, int place, int v) {
        if (!in(sheet, 0, 1)) return BAD;
        if (sheets[sheet] == null) return NOTHING;
        if (!in(place, 0, sheets[sheet].length - 1)) return INDEX;
        int was = sheets[sheet][place];
        sheets[sheet][place] = (short) v;
        return was;
    }

    public int copy(int from, int place, int to, int at, int many) {
        if (!in(from, 0, 1) || !in(to, 0, 1)) return BAD;
        if (sheets[from] == null || sheets[to] == null) return NOTHING;
        if (place < 0 || at < 0 || many < 0) return INDEX;
        if ((long) place + many > sheets[from].length || (long) at + many > sheets[to].length) return INDEX;
        short[] were = sheets[from].clone();
        for (int i = 0; i < many; i++) {
            sheets[to][at + i] = were[place + i];
        }
        return many;
    }

    public int count(int what) {
        return switch (what) {
            case 0 -> s.members.size();
            case 1 -> s.lines.size();
            case 2 -> (int) s.lines.stream().filter(l -> l.withdrawn != NONE).count();
            case 3 -> s.laws.size();
            case 4 -> s.flights.size();
            case 5 -> s.asks.size();
            case 6 -> (int) s.asks.stream().filter(a -> a.paid == NONE).count();
            case 7 -> s.offers.size();
            case 8 -> waiting.size();
            case 9 -> tape.size();
            case 10 -> s.today;
            default -> BAD;
        };
    }
}
