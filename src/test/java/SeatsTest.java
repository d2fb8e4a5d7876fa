/** Promises 22 to 26: flights, asks, their settling. */
public final class SeatsTest {
    private static final int BAD = MilesHall.BAD, NO = MilesHall.NO, FULL = MilesHall.FULL, NONE = MilesHall.NONE;
    private static final Due due = new Due("SeatsTest");

    public static void main(String[] args) {
        flights();
        asks();
        settle();
        ranks();
        pools();
        prices();
        free();
        fullOfLines();
        due.end();
    }

    private static void flights() {
        MilesHall x = new MilesHall();
        x.days(10);
        due.is("flight today", x.flight(10, 1, 0, 1), BAD);
        due.is("flight on 1201", x.flight(1201, 1, 0, 1), BAD);
        due.is("flight leg 0", x.flight(11, 0, 0, 1), BAD);
        due.is("flight leg 10000", x.flight(11, 10000, 0, 1), BAD);
        due.is("flight partner -1", x.flight(11, 1, -1, 1), BAD);
        due.is("flight partner 4", x.flight(11, 1, 4, 1), BAD);
        due.is("flight seats -1", x.flight(11, 1, 0, -1), BAD);
        due.is("flight seats 10", x.flight(11, 1, 0, 10), BAD);
        for (int i = 0; i < 8; i++) {
            due.is("flight " + i, x.flight(i == 0 ? 11 : 1200, 9999, 3, i + 1), i);
        }
        due.is("the ninth", x.flight(11, 1, 0, 1), FULL);
        due.is("a bad ninth", x.flight(10, 1, 0, 1), BAD);
        due.is("open(7)", x.open(7), 8);
        due.is("open(8)", x.open(8), BAD);
        due.is("open(-1)", x.open(-1), BAD);
        due.is("count(4)", x.count(4), 8);
    }

    private static void asks() {
        MilesHall x = new MilesHall();
        x.member(0, 0);
        x.flight(1, 1, 0, 9);
        x.flight(5, 1, 0, 0);
        due.is("ask member 1", x.ask(1, 0, 0), BAD);
        due.is("ask member -1", x.ask(-1, 0, 0), BAD);
        due.is("ask flight 2", x.ask(0, 2, 0), BAD);
        due.is("ask flight -1", x.ask(0, -1, 0), BAD);
        due.is("ask class 4", x.ask(0, 0, 4), BAD);
        due.is("ask class -1", x.ask(0, 0, -1), BAD);
        for (int i = 0; i < 30; i++) {
            due.is("ask " + i, x.ask(0, i % 2, i % 4), i);
        }
        due.is("ask 30", x.ask(0, 0, 0), FULL);
        due.is("asked member", x.asked(7, 0), 0);
        due.is("asked flight", x.asked(7, 1), 1);
        due.is("asked class", x.asked(7, 2), 3);
        due.is("asked seat", x.asked(7, 3), 0);
        due.is("asked paid", x.asked(7, 4), NONE);
        due.is("asked what 5", x.asked(7, 5), BAD);
        due.is("asked what -1", x.asked(7, -1), BAD);
        due.is("asked(30, 0)", x.asked(30, 0), BAD);
        due.is("asked(-1, 0)", x.asked(-1, 0), BAD);
        x.days(1);
        due.is("NO stands ahead of FULL", x.ask(0, 0, 0), NO);
        due.is("BAD stands ahead of NO", x.ask(0, 0, 4), BAD);
        due.is("count(5)", x.count(5), 30);
        due.is("count(6)", x.count(6), 30);
    }

    private static void settle() {
        MilesHall x = new MilesHall();
        x.member(0, 0);
        x.member(0, 0);
        x.fly(0, 0, 250, 0, 0);
        x.fly(1, 0, 150, 0, 0);
        x.flight(10, 100, 1, 3);
        x.ask(0, 0, 0);
        x.ask(1, 0, 0);
        x.ask(1, 0, 1);
        x.ask(0, 0, 2);
        x.ask(0, 0, 3);
        due.is("settle(1)", x.settle(1), BAD);
        due.is("settle(-1)", x.settle(-1), BAD);
        due.is("settle(0)", x.settle(0), 3);
        due.is("seat 0", x.asked(0, 3), 1);
        due.is("seat 1", x.asked(1, 3), 1);
        due.is("who can't pay", x.asked(2, 3), 0);
        due.is("seat 3", x.asked(3, 4), 100);
        due.is("no seat left", x.asked(4, 4), NONE);
        due.is("open", x.open(0), 0);
        due.is("waiting", x.count(6), 2);
        due.is("lines", x.count(1), 5);
        due.is("line's kind", x.line(3, 0), 1);
        due.is("line's member", x.line(3, 1), 1);
        due.is("line's day", x.line(3, 2), 0);
        due.is("line's miles", x.line(3, 5), 100);
        due.is("line's partner", x.line(3, 6), 1);
        due.is("brought", x.brought(4, 0, 0), 100);
        due.is("owes", x.owes(1, 0, 0), -2);
        due.is("settled again", x.settle(0), 0);
        x.flight(10, 60, 0, 1);
        x.ask(0, 1, 0);
        due.is("too dear", x.settle(1), 0);
        x.days(9);
        x.fly(0, 9, 10, 0, 0);
        due.is("later it can pay", x.settle(1), 1);
        due.is("told today", x.line(6, 3), 9);
        x.days(1);
        due.is("its day", x.settle(1), NO);
    }

    private static void ranks() {
        MilesHall x = new MilesHall();
        for (int kind : new int[] {0, 0, 3, 0}) {
            x.member(kind, 0);
        }
        Due.terms(x, "earn l lapse 99 price 10 tier q/100", 0);
        x.fly(0, 0, 50, 0, 0);
        x.fly(1, 0, 200, 0, 0);
        x.fly(2, 0, 50, 0, 0);
        x.fly(3, 0, 100, 0, 0);
        x.flight(9, 1, 0, 2);
        x.flight(9, 1, 0, 2);
        x.ask(0, 0, 0);
        x.ask(2, 0, 0);
        x.ask(3, 0, 0);
        x.ask(3, 1, 0);
        x.ask(1, 0, 0);
        due.is("settle by tier", x.settle(0), 2);
        int[] seats = {0, 1, 0, 0, 1};
        for (int i = 0; i < 5; i++) {
            due.is("seat of " + i, x.asked(i, 3), seats[i]);
        }
        x.withdraw(1);
        x.flight(9, 1, 0, 1);
        x.ask(1, 2, 0);
        x.ask(0, 2, 0);
        x.ask(3, 2, 0);
        due.is("as known today", x.settle(2), 1);
        due.is("the higher one then", x.asked(7, 3), 1);
    }

    private static void pools() {
        MilesHall x = new MilesHall();
        x.member(0, 0);
        x.member(0, 0);
        x.pool(0, 1);
        x.pool(1, 1);
        x.fly(0, 0, 70, 0, 0);
        x.fly(1, 0, 70, 0, 0);
        x.flight(5, 60, 1, 9);
        x.ask(1, 0, 0);
        x.ask(1, 0, 0);
        x.ask(0, 0, 0);
        due.is("two from a pool", x.settle(0), 2);
        due.is("of the lesser member first", x.stands(0, 0, 0, 0), 0);
        due.is("left", x.stands(1, 0, 0, 0), 20);
        due.is("none is left for", x.asked(2, 3), 0);
    }

    private static void prices() {
        MilesHall x = new MilesHall();
        x.member(0, 0);
        x.rule(0, 0);
        Due.terms(x, "earn 9999 lapse 9999 price o*1000+d*10+f tier 0", 0);
        Due.terms(x, "earn 1 lapse 9999 price 7 tier 0", 5);
        for (int i = 0; i < 3; i++) {
            x.fly(0, 0, 1, 0, 0);
        }
        x.flight(8, 1, 0, 3);
        x.ask(0, 0, 1);
        x.ask(0, 0, 2);
        due.is("two", x.settle(0), 2);
        due.is("with three open", x.asked(0, 4), 3081);
        due.is("with two open", x.asked(1, 4), 2082);
        x.days(4);
        x.ask(0, 0, 3);
        x.ask(0, 0, 3);
        x.flight(8, 1, 0, 3);
        x.ask(0, 1, 3);
        due.is("one more", x.settle(0), 1);
        due.is("nearer", x.asked(2, 4), 1043);
        x.days(1);
        due.is("by those in force today", x.settle(1), 1);
        due.is("seven", x.asked(4, 4), 7);
    }

    private static void free() {
        MilesHall x = new MilesHall();
        x.member(0, 0);
        Due.terms(x, "earn 1 lapse 1 price f-1 tier 0", 0);
        x.flight(8, 1, 0, 3);
        x.ask(0, 0, 0);
        x.ask(0, 0, 1);
        x.ask(0, 0, 2);
        due.is("who pays nothing", x.settle(0), 2);
        due.is("below 0", x.asked(0, 4), 0);
        due.is("of 0", x.asked(1, 4), 0);
        due.is("has a seat", x.asked(1, 3), 1);
        due.is("waits", x.asked(2, 4), NONE);
        due.is("no line", x.count(1), 0);
        due.is("open", x.open(0), 1);
        MilesHall y = new MilesHall();
        y.member(0, 0);
        Due.terms(y, "earn 99999 lapse 9 price 99999*9 tier 0", 0);
        y.fly(0, 0, 1, 0, 0);
        y.flight(8, 1, 0, 3);
        y.ask(0, 0, 0);
        due.is("at most", y.settle(0), 1);
        due.is("99999", y.asked(0, 4), 99999);
    }

    private static void fullOfLines() {
        MilesHall x = new MilesHall();
        x.member(0, 0);
        Due.terms(x, "earn 10 lapse 9 price f tier 0", 0);
        for (int i = 0; i < 99; i++) {
            x.fly(0, 0, 1, 0, 0);
        }
        x.flight(8, 1, 0, 9);
        x.ask(0, 0, 0);
        x.ask(0, 0, 1);
        x.ask(0, 0, 1);
        x.ask(0, 0, 0);
        due.is("till 100 lines are told", x.settle(0), 2);
        due.is("free ahead of it", x.asked(0, 3), 1);
        due.is("the 100th line", x.asked(1, 3), 1);
        due.is("all wait on", x.asked(2, 3), 0);
        due.is("all, for nothing too", x.asked(3, 3), 0);
        due.is("lines", x.count(1), 100);
        due.is("still", x.settle(0), 0);
    }
}
