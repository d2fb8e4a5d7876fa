/** Promises 1 to 8 and 33: a new object, members, pools, marks, days, rules, rings. */
public final class MembersTest {
    private static final int BAD = MilesHall.BAD, FULL = MilesHall.FULL, NONE = MilesHall.NONE, NOTHING = MilesHall.NOTHING;
    private static final Due due = new Due("MembersTest");

    public static void main(String[] args) {
        newObject();
        members();
        kinds();
        pools();
        marks();
        lay();
        days();
        rules();
        rings();
        due.end();
    }

    private static void newObject() {
        MilesHall x = new MilesHall();
        for (int what = 0; what <= 10; what++) {
            due.is("new: count(" + what + ")", x.count(what), 0);
        }
        due.is("new: again()", x.again(), MilesHall.NO);
        due.is("new: ring(0)", x.ring(0), NONE);
        due.is("new: is(0, 0)", x.is(0, 0), BAD);
        due.is("new: line(0, 0)", x.line(0, 0), BAD);
        due.is("new: asked(0, 0)", x.asked(0, 0), BAD);
        due.is("new: open(0)", x.open(0), BAD);
        due.is("new: mark(0, 0, 0)", x.mark(0, 0, 0), NOTHING);
    }

    private static void members() {
        MilesHall x = new MilesHall();
        due.is("member(-1, 0)", x.member(-1, 0), BAD);
        due.is("member(4, 0)", x.member(4, 0), BAD);
        due.is("member(0, -1)", x.member(0, -1), BAD);
        due.is("member(0, 4096)", x.member(0, 4096), BAD);
        due.is("count(0)", x.count(0), 0);
        for (int i = 0; i < 10; i++) {
            due.is("member " + i, x.member(i % 4, 4095), i);
        }
        due.is("the 11th member", x.member(0, 0), FULL);
        due.is("a bad 11th member", x.member(4, 0), BAD);
        due.is("count(0)", x.count(0), 10);
    }

    private static void kinds() {
        MilesHall x = new MilesHall();
        int[][] is = {{1, 0, 0, 0}, {1, 1, 0, 0}, {1, 0, 1, 0}, {1, 0, 1, 1}};
        for (int kind = 0; kind < 4; kind++) {
            x.member(kind, 0);
            for (int asked = 0; asked < 4; asked++) {
                due.is("is(" + kind + ", " + asked + ")", x.is(kind, asked), is[kind][asked]);
            }
        }
        due.is("is(0, 4)", x.is(0, 4), BAD);
        due.is("is(0, -1)", x.is(0, -1), BAD);
        due.is("is(4, 0)", x.is(4, 0), BAD);
        due.is("is(-1, 0)", x.is(-1, 0), BAD);
    }

    private static void pools() {
        MilesHall x = new MilesHall();
        x.member(0, 0);
        due.is("pool(0, 0)", x.pool(0, 0), NONE);
        due.is("pool(0, 2)", x.pool(0, 2), 0);
        due.is("pool(0, 3)", x.pool(0, 3), BAD);
        due.is("pool(0, -1)", x.pool(0, -1), BAD);
        due.is("pool(1, 0)", x.pool(1, 0), BAD);
        due.is("pool(-1, 0)", x.pool(-1, 0), BAD);
        due.is("pool(0, NONE)", x.pool(0, NONE), 2);
        due.is("pool(0, NONE) again", x.pool(0, NONE), NONE);
    }

    private static void marks() {
        MilesHall x = new MilesHall();
        x.member(0, 7);
        due.is("marks(0, 4095)", x.marks(0, 4095), 7);
        due.is("marks(0, 4096)", x.marks(0, 4096), BAD);
        due.is("marks(0, -1)", x.marks(0, -1), BAD);
        due.is("marks(1, 0)", x.marks(1, 0), BAD);
        due.is("marks(-1, 0)", x.marks(-1, 0), BAD);
        due.is("marks(0, 0)", x.marks(0, 0), 4095);
    }

    private static void lay() {
        MilesHall x = new MilesHall();
        due.is("lay(-1)", x.lay(-1), BAD);
        due.is("lay(2)", x.lay(2), BAD);
        due.is("lay(0) missing", x.lay(0), NOTHING);
        x.sheet(0, 0);
        due.is("lay(0) of no places", x.lay(0), 0);
        x.sheet(0, 4);
        due.is("lay(0) for nobody", x.lay(0), 0);
        for (int i = 0; i < 5; i++) {
            x.member(0, 5);
        }
        x.mark(0, 0, 4095);
        x.mark(0, 1, -1);
        x.mark(0, 2, 4096);
        x.mark(0, 3, 65537);
        due.is("lay(0) fewer places", x.lay(0), 4);
        int[] laid = {4095, 0, 0, 1, 5};
        for (int i = 0; i < 5; i++) {
            due.is("laid " + i, x.marks(i, 0), laid[i]);
        }
        x.sheet(1, 16);
        due.is("lay(1) more places", x.lay(1), 5);
    }

    private static void days() {
        MilesHall x = new MilesHall();
        due.is("days(0)", x.days(0), BAD);
        due.is("days(-1)", x.days(-1), BAD);
        due.is("days(101)", x.days(101), BAD);
        due.is("days(MAX)", x.days(Integer.MAX_VALUE), BAD);
        due.is("days(1)", x.days(1), 1);
        for (int i = 1; i <= 11; i++) {
            due.is("days(100)", x.days(100), 1 + 100 * i);
        }
        due.is("days(100) above 1200", x.days(100), BAD);
        due.is("days(99)", x.days(99), 1200);
        due.is("days(1) above 1200", x.days(1), BAD);
        due.is("count(10)", x.count(10), 1200);
    }

    private static void rules() {
        MilesHall x = new MilesHall();
        int[] first = {30, 90, 60};
        int[] least = {0, 1, 0};
        int[] most = {360, 999, 999};
        for (int which = 0; which < 3; which++) {
            due.is("rule too small " + which, x.rule(which, least[which] - 1), BAD);
            due.is("rule too great " + which, x.rule(which, most[which] + 1), BAD);
            due.is("rule least " + which, x.rule(which, least[which]), first[which]);
            due.is("rule most " + which, x.rule(which, most[which]), least[which]);
            due.is("rule again " + which, x.rule(which, 50), most[which]);
        }
        due.is("rule(-1, 1)", x.rule(-1, 1), BAD);
        due.is("rule(3, 1)", x.rule(3, 1), BAD);
    }

    private static void rings() {
        MilesHall x = new MilesHall();
        int[] marks = {0, 1, 8, 3, 8, 6, 24, 0, 4, 16};
        for (int one : marks) {
            x.member(0, one);
        }
        due.is("ring(0)", x.ring(0), 1 << 1 | 1 << 3 | 1 << 5 | 1 << 8);
        due.is("ring(1)", x.ring(1), 1 << 2 | 1 << 4 | 1 << 6 | 1 << 9);
        due.is("ring(2)", x.ring(2), NONE);
        due.is("ring(MAX)", x.ring(Integer.MAX_VALUE), NONE);
        due.is("ring(-1)", x.ring(-1), BAD);
        x.marks(6, 8);
        due.is("ring(1) without 9", x.ring(1), 1 << 2 | 1 << 4 | 1 << 6);
        x.marks(6, 16);
        due.is("two and two are no ring", x.ring(1), NONE);
        x.marks(3, 0);
        due.is("ring(0), the least behind", x.ring(0), NONE);
        x.marks(1, 2);
        due.is("ring(0), a chain anew", x.ring(0), 1 << 1 | 1 << 5 | 1 << 8);
        x.marks(0, 2048);
        x.marks(9, 2048 | 4);
        due.is("ring(0) of the first", x.ring(0), 1 | 1 << 1 | 1 << 5 | 1 << 8 | 1 << 9);
        due.is("only one", x.ring(1), NONE);
    }
}
