/** Promises 9 to 18: lines, how it stands, what partners owe. */
public final class LinesTest {
    private static final int BAD = MilesHall.BAD, NO = MilesHall.NO, FULL = MilesHall.FULL, NONE = MilesHall.NONE;
    private static final Due due = new Due("LinesTest");

    public static void main(String[] args) {
        fly();
        spend();
        gift();
        back();
        withdraw();
        lines();
        full();
        known();
        order();
        pools();
        giftLapses();
        backs();
        lapsing();
        years();
        owes();
        rates();
        due.end();
    }

    private static MilesHall club(int... kinds) {
        MilesHall x = new MilesHall();
        for (int kind : kinds) {
            x.member(kind, 0);
        }
        return x;
    }

    private static void fly() {
        MilesHall x = club(0);
        due.is("fly(1, ..)", x.fly(1, 0, 1, 0, 0), BAD);
        due.is("fly(-1, ..)", x.fly(-1, 0, 1, 0, 0), BAD);
        due.is("fly about -1", x.fly(0, -1, 1, 0, 0), BAD);
        due.is("fly about 1", x.fly(0, 1, 1, 0, 0), BAD);
        due.is("fly leg 0", x.fly(0, 0, 0, 0, 0), BAD);
        due.is("fly leg 10000", x.fly(0, 0, 10000, 0, 0), BAD);
        for (int how : new int[] {-1, -10, 4, 9, 14, 34, 39, 40, 43, Integer.MAX_VALUE, Integer.MIN_VALUE}) {
            due.is("fly how " + how, x.fly(0, 0, 1, how, 0), BAD);
        }
        due.is("fly coins -1", x.fly(0, 0, 1, 0, -1), BAD);
        due.is("fly coins 10000", x.fly(0, 0, 1, 0, 10000), BAD);
        due.is("count(1)", x.count(1), 0);
        due.is("fly least", x.fly(0, 0, 1, 0, 0), 0);
        due.is("fly most", x.fly(0, 0, 9999, 33, 9999), 1);
        due.is("a fly without terms", x.brought(1, 0, 0), 9999);
    }

    private static void spend() {
        MilesHall x = club(0);
        due.is("spend(1, ..)", x.spend(1, 0, 1, 0), BAD);
        due.is("spend about 1", x.spend(0, 1, 1, 0), BAD);
        due.is("spend about -1", x.spend(0, -1, 1, 0), BAD);
        due.is("spend 0", x.spend(0, 0, 0, 0), BAD);
        due.is("spend 100000", x.spend(0, 0, 100000, 0), BAD);
        due.is("spend at -1", x.spend(0, 0, 1, -1), BAD);
        due.is("spend at 4", x.spend(0, 0, 1, 4), BAD);
        x.fly(0, 0, 100, 0, 0);
        due.is("spend 101", x.spend(0, 0, 101, 3), 1);
        due.is("spend 100", x.spend(0, 0, 100, 3), 2);
        due.is("spend 1", x.spend(0, 0, 1, 3), 3);
        due.is("more than there is", x.brought(1, 0, 0), 0);
        due.is("just what there is", x.brought(2, 0, 0), 100);
        due.is("nothing left", x.brought(3, 0, 0), 0);
        due.is("stands", x.stands(0, 0, 0, 0), 0);
        due.is("points stay", x.stands(0, 0, 0, 1), 100);
    }

    private static void gift() {
        MilesHall x = club(0, 0);
        due.is("gift(2, ..)", x.gift(2, 0, 1, 0), BAD);
        due.is("gift about 1", x.gift(0, 1, 1, 1), BAD);
        due.is("gift 0", x.gift(0, 0, 0, 1), BAD);
        due.is("gift 100000", x.gift(0, 0, 100000, 1), BAD);
        due.is("gift to 2", x.gift(0, 0, 1, 2), BAD);
        due.is("gift to -1", x.gift(0, 0, 1, -1), BAD);
        due.is("gift to oneself", x.gift(1, 0, 1, 1), BAD);
        x.fly(0, 0, 100, 0, 0);
        due.is("gift 60", x.gift(0, 0, 60, 1), 1);
        due.is("gift 50", x.gift(0, 0, 50, 1), 2);
        due.is("brought 60", x.brought(1, 0, 0), 60);
        due.is("brought nothing", x.brought(2, 0, 0), 0);
        due.is("giver", x.stands(0, 0, 0, 0), 40);
        due.is("taker", x.stands(1, 0, 0, 0), 60);
        due.is("a gift is no points", x.stands(1, 0, 0, 1), 0);
    }

    private static void back() {
        MilesHall x = club(0);
        x.days(5);
        x.fly(0, 1, 100, 0, 0);
        x.spend(0, 3, 40, 1);
        due.is("back(-1, 5)", x.back(-1, 5), BAD);
        due.is("back(2, 5)", x.back(2, 5), BAD);
        due.is("back of a fly", x.back(0, 5), BAD);
        due.is("back ahead of it", x.back(1, 2), BAD);
        due.is("back later than today", x.back(1, 6), BAD);
        due.is("back on its day", x.back(1, 3), 2);
        due.is("back of a back", x.back(2, 5), BAD);
        due.is("brought", x.brought(2, 3, 5), 40);
        due.is("grace", x.stands(0, 92, 5, 3), 40);
        due.is("grace is over", x.stands(0, 93, 5, 4), 40);
        x.rule(1, 10);
        due.is("another grace", x.stands(0, 13, 5, 4), 40);
    }

    private static void withdraw() {
        MilesHall x = club(0);
        due.is("withdraw(0)", x.withdraw(0), BAD);
        due.is("withdraw(-1)", x.withdraw(-1), BAD);
        x.fly(0, 0, 100, 0, 0);
        x.days(7);
        due.is("withdraw", x.withdraw(0), 1);
        due.is("withdraw again", x.withdraw(0), NO);
        due.is("withdrawn on", x.line(0, 4), 7);
        due.is("count(2)", x.count(2), 1);
        due.is("known ahead", x.stands(0, 7, 6, 0), 100);
        due.is("not known then", x.stands(0, 7, 7, 0), 0);
    }

    private static void lines() {
        MilesHall x = club(0, 0);
        x.days(9);
        x.fly(1, 2, 300, 21, 77);
        x.spend(1, 3, 200, 2);
        x.gift(1, 4, 50, 0);
        x.days(1);
        x.back(1, 6);
        int[][] lines = {
            {0, 1, 2, 9, NONE, 300, 21},
            {1, 1, 3, 9, NONE, 200, 2},
            {2, 1, 4, 9, NONE, 50, 0},
            {3, 1, 6, 10, NONE, 200, 1},
        };
        for (int line = 0; line < 4; line++) {
            for (int what = 0; what < 7; what++) {
                due.is("line(" + line + ", " + what + ")", x.line(line, what), lines[line][what]);
            }
        }
        due.is("line(0, 7)", x.line(0, 7), BAD);
        due.is("line(0, -1)", x.line(0, -1), BAD);
        due.is("line(4, 0)", x.line(4, 0), BAD);
        due.is("line(-1, 0)", x.line(-1, 0), BAD);
    }

    private static void full() {
        MilesHall x = club(0, 0);
        x.spend(0, 0, 1, 0);
        for (int i = 1; i < 100; i++) {
            due.is("line " + i, x.fly(0, 0, 1, 0, 0), i);
        }
        due.is("fly 101", x.fly(0, 0, 1, 0, 0), FULL);
        due.is("spend 101", x.spend(0, 0, 1, 0), FULL);
        due.is("gift 101", x.gift(0, 0, 1, 1), FULL);
        due.is("back 101", x.back(0, 0), FULL);
        due.is("a bad fly 101", x.fly(0, 0, 0, 0, 0), BAD);
        due.is("count(1)", x.count(1), 100);
        due.is("all of them", x.stands(0, 0, 0, 0), 99);
    }

    private static void known() {
        MilesHall x = club(0);
        x.days(10);
        x.fly(0, 4, 100, 0, 0);
        due.is("about a later day", x.brought(0, 3, 10), NO);
        due.is("not known yet", x.brought(0, 10, 9), NO);
        due.is("brought", x.brought(0, 4, 10), 100);
        due.is("brought(1, ..)", x.brought(1, 4, 10), BAD);
        due.is("brought day 1201", x.brought(0, 1201, 10), BAD);
        due.is("brought known -1", x.brought(0, 4, -1), BAD);
        due.is("stands ahead of it", x.stands(0, 3, 10, 0), 0);
        due.is("stands ahead of knowing", x.stands(0, 4, 9, 0), 0);
        due.is("stands", x.stands(0, 4, 1200, 0), 100);
        due.is("stands(1, ..)", x.stands(1, 4, 10, 0), BAD);
        due.is("stands(-1, ..)", x.stands(-1, 4, 10, 0), BAD);
        due.is("stands day -1", x.stands(0, -1, 10, 0), BAD);
        due.is("stands day 1201", x.stands(0, 1201, 10, 0), BAD);
        due.is("stands known 1201", x.stands(0, 4, 1201, 0), BAD);
        due.is("stands what 5", x.stands(0, 4, 10, 5), BAD);
        due.is("stands what -1", x.stands(0, 4, 10, -1), BAD);
        x.withdraw(0);
        due.is("withdrawn", x.brought(0, 4, 10), NO);
    }

    /** LINES that are told later are gone through by the DAYS that they are about. */
    private static void order() {
        MilesHall x = club(0);
        x.days(10);
        x.spend(0, 5, 50, 1);
        x.spend(0, 4, 80, 1);
        x.fly(0, 6, 10, 0, 0);
        x.fly(0, 3, 100, 0, 0);
        due.is("the earlier spend", x.brought(1, 10, 10), 80);
        due.is("the later spend", x.brought(0, 10, 10), 0);
        due.is("left", x.stands(0, 10, 10, 0), 30);
        x.withdraw(1);
        due.is("without it", x.brought(0, 10, 10), 50);
        x.spend(0, 5, 50, 1);
        due.is("of one day by numbers", x.brought(4, 10, 10), 50);
        x.spend(0, 6, 10, 1);
        x.spend(0, 6, 1, 1);
        due.is("the last of it", x.brought(5, 10, 10), 10);
        due.is("behind the last", x.brought(6, 10, 10), 0);
    }

    private static void pools() {
        MilesHall x = club(0, 0, 0, 0);
        x.fly(2, 0, 100, 0, 0);
        x.fly(1, 0, 100, 0, 0);
        x.days(1);
        x.fly(0, 1, 100, 0, 0);
        x.fly(3, 0, 100, 0, 0);
        x.pool(0, 2);
        x.pool(1, 2);
        x.pool(2, 2);
        x.spend(0, 1, 250, 1);
        due.is("a pool's spend", x.brought(4, 1, 1), 250);
        due.is("who lapses last", x.stands(0, 1, 1, 0), 50);
        due.is("the lesser", x.stands(1, 1, 1, 0), 0);
        due.is("the other", x.stands(2, 1, 1, 0), 0);
        due.is("not in it", x.stands(3, 1, 1, 0), 100);
        x.pool(1, NONE);
        due.is("as it is now", x.brought(4, 1, 1), 0);
        x.gift(0, 1, 150, 3);
        due.is("a gift from oneself alone", x.brought(5, 1, 1), 0);
        x.pool(3, 1);
        x.spend(3, 1, 101, 1);
        due.is("alone in a pool", x.brought(6, 1, 1), 0);
        x.pool(2, 1);
        due.is("two in a pool", x.brought(6, 1, 1), 101);
        due.is("the lesser member first", x.stands(2, 1, 1, 0), 0);
    }

    private static void giftLapses() {
        MilesHall x = club(0, 0);
        x.fly(0, 0, 10, 0, 0);
        x.days(10);
        x.fly(0, 10, 10, 0, 0);
        x.gift(0, 10, 15, 1);
        due.is("one lot, ahead", x.stands(1, 719, 10, 0), 15);
        due.is("one lot, lapsed", x.stands(1, 720, 10, 4), 15);
        due.is("what was not taken", x.stands(0, 729, 10, 0), 5);
        x.spend(0, 10, 5, 0);
        x.gift(1, 10, 15, 0);
        due.is("it comes back as it was", x.stands(0, 720, 10, 4), 15);
    }

    private static void backs() {
        MilesHall x = club(0, 0);
        x.pool(0, 0);
        x.pool(1, 0);
        x.fly(1, 0, 100, 2, 0);
        x.spend(0, 0, 100, 2);
        x.back(1, 0);
        x.back(1, 0);
        due.is("to the member of the spend", x.stands(0, 0, 0, 0), 100);
        due.is("once only", x.brought(3, 0, 0), 0);
        due.is("nothing is spent", x.owes(2, 0, 0), 1);
        x.days(3);
        x.withdraw(2);
        due.is("then the other one", x.brought(3, 3, 3), 100);
        due.is("still as known", x.brought(3, 3, 2), 0);
        x.withdraw(1);
        due.is("no spend", x.brought(3, 3, 3), 0);
        x.spend(0, 3, 999, 1);
        x.back(4, 3);
        due.is("a spend that brought nothing", x.brought(5, 3, 3), 0);
    }

    private static void lapsing() {
        MilesHall x = club(0, 1, 3);
        x.fly(0, 0, 70, 0, 0);
        x.fly(1, 0, 80, 0, 0);
        due.is("there", x.stands(0, 719, 0, 0), 70);
        due.is("not there", x.stands(0, 720, 0, 0), 0);
        due.is("lapsed not yet", x.stands(0, 719, 0, 4), 0);
        due.is("lapsed", x.stands(0, 720, 0, 4), 70);
        due.is("warned not yet", x.stands(0, 659, 0, 3), 0);
        due.is("warned", x.stands(0, 660, 0, 3), 70);
        due.is("warned to the last", x.stands(0, 719, 0, 3), 70);
        due.is("lapsed is not warned", x.stands(0, 720, 0, 3), 0);
        x.rule(2, 0);
        due.is("no warning", x.stands(0, 719, 0, 3), 0);
        x.rule(2, 1);
        due.is("a day's warning", x.stands(0, 719, 0, 3), 70);
        due.is("a child's", x.stands(1, 1200, 0, 0), 80);
        due.is("staff without terms", x.stands(2, 0, 0, 2), 1);
        due.is("others without terms", x.stands(0, 0, 0, 2), 0);
        for (int i = 0; i < 8; i++) {
            x.days(100);
        }
        x.spend(0, 720, 1, 0);
        x.spend(0, 719, 60, 0);
        due.is("on the day it lapses", x.brought(2, 800, 800), 0);
        due.is("the day ahead", x.brought(3, 800, 800), 60);
        due.is("lapsed the rest", x.stands(0, 800, 800, 4), 10);
    }

    private static void years() {
        MilesHall x = club(0);
        Due.terms(x, "earn l lapse 9999 price 0 tier q/100", 0);
        for (int i = 0; i < 8; i++) {
            x.days(100);
        }
        x.fly(0, 359, 100, 0, 0);
        x.fly(0, 360, 200, 0, 0);
        due.is("points of a year", x.stands(0, 359, 800, 1), 100);
        due.is("points of the next", x.stands(0, 360, 800, 1), 200);
        due.is("points of the third", x.stands(0, 720, 800, 1), 0);
        due.is("points so far", x.stands(0, 358, 800, 1), 0);
        due.is("tier of a year", x.stands(0, 359, 800, 2), 1);
        due.is("tier of the greater", x.stands(0, 719, 800, 2), 2);
        due.is("tier by the year ahead", x.stands(0, 720, 800, 2), 2);
        due.is("tier by none", x.stands(0, 1080, 800, 2), 0);
        x.withdraw(1);
        due.is("tier by the year ahead alone", x.stands(0, 719, 800, 2), 1);
        for (int i = 0; i < 4; i++) {
            x.days(100);
        }
        x.fly(0, 1079, 100, 0, 0);
        x.fly(0, 1080, 300, 0, 0);
        due.is("points of year 2", x.stands(0, 1079, 1200, 1), 100);
        due.is("points of year 3", x.stands(0, 1200, 1200, 1), 300);
        due.is("tier of year 3", x.stands(0, 1200, 1200, 2), 3);
    }

    private static void owes() {
        MilesHall x = club(0);
        x.fly(0, 0, 9999, 1, 0);
        x.fly(0, 0, 999, 12, 0);
        x.fly(0, 0, 9999, 0, 0);
        due.is("owes made", x.owes(1, 0, 0), 99);
        due.is("owes made, another", x.owes(2, 0, 0), 9);
        due.is("owes nothing", x.owes(3, 0, 0), 0);
        x.spend(0, 0, 9999, 3);
        due.is("is owed", x.owes(3, 0, 0), -79);
        x.spend(0, 0, 199, 1);
        due.is("each cut by itself", x.owes(1, 0, 0), 98);
        due.is("owes(0, ..)", x.owes(0, 0, 0), BAD);
        due.is("owes(4, ..)", x.owes(4, 0, 0), BAD);
        due.is("owes day -1", x.owes(1, -1, 0), BAD);
        due.is("owes known 1201", x.owes(1, 0, 1201), BAD);
        MilesHall y = club(0);
        Due.terms(y, "earn 99999 lapse 9 price 0 tier 0", 0);
        for (int i = 0; i < 60; i++) {
            y.fly(0, 0, 1, 1, 0);
        }
        y.rate(1, 0, 999);
        due.is("more than an int on the way", y.owes(1, 0, 0), 5993940);
    }

    private static void rates() {
        MilesHall x = club(0);
        for (int partner = 1; partner <= 3; partner++) {
            due.is("made rate", x.rate(partner, 0, 999), 10);
            due.is("given rate", x.rate(partner, 1, 0), 8);
            due.is("made rate again", x.rate(partner, 0, 0), 999);
            due.is("given rate again", x.rate(partner, 1, 999), 0);
        }
        due.is("rate(0, ..)", x.rate(0, 0, 1), BAD);
        due.is("rate(4, ..)", x.rate(4, 0, 1), BAD);
        due.is("rate which -1", x.rate(1, -1, 1), BAD);
        due.is("rate which 2", x.rate(1, 2, 1), BAD);
        due.is("rate -1", x.rate(1, 0, -1), BAD);
        due.is("rate 1000", x.rate(1, 0, 1000), BAD);
        x.rate(1, 0, 500);
        x.fly(0, 0, 1000, 1, 0);
        due.is("owes by its rate", x.owes(1, 0, 0), 500);
        x.spend(0, 0, 1000, 1);
        due.is("less by the other rate", x.owes(1, 0, 0), -499);
    }
}
