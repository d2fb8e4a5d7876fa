/** Promises 34 to 39: images, sheets, counts. */
public final class ImagesTest {
    private static final int BAD = MilesHall.BAD, NO = MilesHall.NO, NONE = MilesHall.NONE;
    private static final int NOTHING = MilesHall.NOTHING, INDEX = MilesHall.INDEX, SIZE = MilesHall.SIZE;
    private static final Due due = new Due("ImagesTest");

    public static void main(String[] args) {
        images();
        whatImagesLeave();
        sheets();
        marks();
        copies();
        counts();
        due.end();
    }

    private static void images() {
        MilesHall x = new MilesHall();
        due.is("again without one", x.again(), NO);
        x.days(3);
        x.member(3, 5);
        x.pool(0, 1);
        x.fly(0, 2, 500, 1, 9);
        x.flight(50, 100, 2, 4);
        x.ask(0, 0, 1);
        x.offer(3, 4, 5);
        x.rule(1, 44);
        x.rate(2, 1, 77);
        Due.terms(x, "earn 70 lapse 400 price 5 tier 1", 40);
        due.is("keep", x.keep(), 3);
        for (int round = 0; round < 2; round++) {
            x.days(9);
            x.member(0, 0);
            x.pool(0, 2);
            x.marks(0, 6);
            x.spend(0, 1, 100, 2);
            x.withdraw(0);
            x.flight(50, 100, 2, 4);
            x.ask(0, 1, 1);
            x.settle(0);
            x.clear();
            x.offer(1, 1, 1);
            x.way(1);
            x.rule(1, 45);
            x.rate(2, 1, 78);
            Due.terms(x, "earn 71 lapse 400 price 5 tier 2", 42);
            due.is("again", x.again(), 3);
            int[] counts = {1, 1, 0, 1, 1, 1, 1, 1, 0, 0, 3};
            for (int what = 0; what <= 10; what++) {
                due.is("count(" + what + ")", x.count(what), counts[what]);
            }
            due.is("pool", x.pool(0, 1), 1);
            due.is("marks", x.marks(0, 5), 5);
            due.is("line", x.line(0, 4), NONE);
            due.is("miles", x.stands(0, 3, 3, 0), 500);
            due.is("open", x.open(0), 4);
            due.is("asked", x.asked(0, 4), NONE);
            due.is("way", x.way(5), 6);
            due.is("rule", x.rule(1, 44), 44);
            due.is("rate", x.rate(2, 1, 77), 77);
            due.is("tier", x.stands(0, 42, 3, 2), 1);
        }
        x.days(1);
        due.is("keep anew", x.keep(), 4);
        x.days(1);
        due.is("the newer one", x.again(), 4);
        due.is("goes on: told", x.fly(0, 1, 10, 0, 0), 1);
        due.is("goes on: brought", x.brought(1, 4, 4), 10);
    }

    private static void whatImagesLeave() {
        MilesHall x = new MilesHall();
        x.keep();
        x.sheet(0, 3);
        x.mark(0, 1, 9);
        x.tell(4);
        x.feed(1, 2, 3);
        x.again();
        due.is("a sheet stays", x.mark(0, 1, 9), 9);
        due.is("numbers stay", x.count(8), 1);
        due.is("the tape stays", x.count(9), 12);
        due.is("no ring of nobody", x.ring(0), NONE);
    }

    private static void sheets() {
        MilesHall x = new MilesHall();
        due.is("sheet(-1, 1)", x.sheet(-1, 1), BAD);
        due.is("sheet(2, 1)", x.sheet(2, 1), BAD);
        due.is("sheet(2, -1)", x.sheet(2, -1), BAD);
        due.is("sheet(0, 17)", x.sheet(0, 17), BAD);
        due.is("sheet(0, -1)", x.sheet(0, -1), SIZE);
        due.is("sheet(0, MIN)", x.sheet(0, Integer.MIN_VALUE), SIZE);
        due.is("still missing", x.mark(0, 0, 1), NOTHING);
        due.is("sheet(0, 16)", x.sheet(0, 16), 16);
        due.is("mark(0, 15, 3)", x.mark(0, 15, 3), 0);
        due.is("mark(0, 0, 3)", x.mark(0, 0, 3), 0);
        due.is("sheet(0, -1) refused", x.sheet(0, -1), SIZE);
        due.is("and nothing changed", x.mark(0, 15, 3), 3);
        due.is("sheet(0, 16) anew", x.sheet(0, 16), 16);
        due.is("all 0", x.mark(0, 15, 3), 0);
        due.is("all 0, the first", x.mark(0, 0, 3), 0);
        due.is("sheet(0, 0)", x.sheet(0, 0), 0);
        due.is("no place", x.mark(0, 0, 1), INDEX);
        due.is("the other is missing", x.mark(1, 0, 1), NOTHING);
    }

    private static void marks() {
        MilesHall x = new MilesHall();
        x.sheet(1, 2);
        due.is("mark(2, 0, 0)", x.mark(2, 0, 0), BAD);
        due.is("mark(-1, 0, 0)", x.mark(-1, 0, 0), BAD);
        due.is("mark(0, 0, 0)", x.mark(0, 0, 0), NOTHING);
        due.is("mark(0, -1, 0)", x.mark(0, -1, 0), NOTHING);
        due.is("mark(1, -1, 0)", x.mark(1, -1, 0), INDEX);
        due.is("mark(1, 2, 0)", x.mark(1, 2, 0), INDEX);
        due.is("mark(1, MAX, 0)", x.mark(1, Integer.MAX_VALUE, 0), INDEX);
        due.is("mark(1, 0, 32768)", x.mark(1, 0, 32768), 0);
        due.is("as a short", x.mark(1, 0, -70000), -32768);
        due.is("as a short again", x.mark(1, 0, 0), (short) -70000);
        due.is("the other place", x.mark(1, 1, 0), 0);
    }

    private static void copies() {
        MilesHall x = new MilesHall();
        due.is("copy from 2", x.copy(2, 0, 0, 0, 0), BAD);
        due.is("copy from -1", x.copy(-1, 0, 0, 0, 0), BAD);
        due.is("copy to 2", x.copy(0, 0, 2, 0, 0), BAD);
        due.is("copy missing", x.copy(0, 0, 1, 0, 0), NOTHING);
        x.sheet(0, 5);
        due.is("copy to missing", x.copy(0, 0, 1, 0, 0), NOTHING);
        due.is("copy from missing", x.copy(1, 0, 0, 0, 9), NOTHING);
        x.sheet(1, 3);
        for (int i = 0; i < 5; i++) {
            x.mark(0, i, i + 1);
        }
        int max = Integer.MAX_VALUE;
        int[][] wrong = {{-1, 0, 1}, {0, -1, 1}, {0, 0, -1}, {0, 0, 4}, {3, 0, 3}, {0, 1, 3}, {6, 0, 0}, {0, 4, 0}, {1, 1, max}, {max, 0, 1}, {0, max, 1}};
        for (int[] one : wrong) {
            due.is("copy of no places", x.copy(0, one[0], 1, one[1], one[2]), INDEX);
        }
        due.is("copy none at the ends", x.copy(0, 5, 1, 3, 0), 0);
        due.is("copy", x.copy(0, 2, 1, 0, 3), 3);
        int[] other = {3, 4, 5};
        for (int i = 0; i < 3; i++) {
            due.is("copied " + i, x.mark(1, i, other[i]), other[i]);
        }
        due.is("copy up", x.copy(0, 0, 0, 1, 4), 4);
        int[] up = {1, 1, 2, 3, 4};
        for (int i = 0; i < 5; i++) {
            due.is("as they were, up " + i, x.mark(0, i, up[i]), up[i]);
        }
        due.is("copy down", x.copy(0, 2, 0, 0, 3), 3);
        int[] down = {2, 3, 4, 3, 4};
        for (int i = 0; i < 5; i++) {
            due.is("as they were, down " + i, x.mark(0, i, down[i]), down[i]);
        }
    }

    private static void counts() {
        MilesHall x = new MilesHall();
        x.member(0, 0);
        x.member(0, 0);
        for (int i = 0; i < 4; i++) {
            x.fly(0, 0, 10, 0, 0);
        }
        x.withdraw(1);
        x.withdraw(3);
        Due.terms(x, "earn 1 lapse 9 price 1 tier 0", 0);
        x.flight(9, 1, 0, 1);
        x.flight(9, 1, 0, 1);
        x.flight(9, 1, 0, 1);
        x.ask(0, 0, 0);
        x.ask(0, 0, 0);
        x.ask(1, 0, 0);
        x.settle(0);
        x.offer(1, 1, 1);
        x.tell(1);
        x.tell(1);
        x.feed(0, 0, 0);
        x.days(2);
        int[] counts = {2, 5, 2, 1, 3, 3, 2, 1, 2, 12, 2};
        for (int what = 0; what <= 10; what++) {
            due.is("count(" + what + ")", x.count(what), counts[what]);
        }
        due.is("count(11)", x.count(11), BAD);
        due.is("count(-1)", x.count(-1), BAD);
    }
}
