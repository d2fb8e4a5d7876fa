import java.util.Random;

/** Promises 27 to 32: offers, the way, its rows and their check. */
public final class WaysTest {
    private static final int BAD = MilesHall.BAD, NO = MilesHall.NO, FULL = MilesHall.FULL;
    private static final Due due = new Due("WaysTest");

    public static void main(String[] args) {
        offers();
        ways();
        ties();
        tells();
        againstAll();
        due.end();
    }

    private static void offers() {
        MilesHall x = new MilesHall();
        due.is("offer coins 0", x.offer(0, 1, 1), BAD);
        due.is("offer coins 10000", x.offer(10000, 1, 1), BAD);
        due.is("offer points 0", x.offer(1, 0, 1), BAD);
        due.is("offer points 1000", x.offer(1, 1000, 1), BAD);
        due.is("offer times 0", x.offer(1, 1, 0), BAD);
        due.is("offer times 10", x.offer(1, 1, 10), BAD);
        for (int i = 0; i < 8; i++) {
            due.is("offer " + i, x.offer(9999, 999, 9), i);
        }
        due.is("the ninth", x.offer(1, 1, 1), FULL);
        due.is("a bad ninth", x.offer(0, 1, 1), BAD);
        due.is("count(7)", x.count(7), 8);
        due.is("clear", x.clear(), 8);
        due.is("clear again", x.clear(), 0);
        due.is("count(7) then", x.count(7), 0);
        due.is("offer anew", x.offer(1, 1, 1), 0);
        due.is("way anew", x.way(1), 1);
    }

    private static void ways() {
        MilesHall x = new MilesHall();
        x.offer(9999, 42, 9);
        for (int i = 0; i < 7; i++) {
            x.offer(9999, 42, 9);
        }
        due.is("all of them", x.way(42 * 72), MilesHall.BAD);
        due.is("way(3000)", x.way(3000), 72 * 9999);
        due.is("taken(3000, 7)", x.taken(3000, 7), 9);
        due.is("way(3001)", x.way(3001), BAD);
        due.is("way(-1)", x.way(-1), BAD);
        due.is("taken(-1, 0)", x.taken(-1, 0), BAD);
        due.is("taken(3001, 0)", x.taken(3001, 0), BAD);
        due.is("taken(0, 8)", x.taken(0, 8), BAD);
        due.is("taken(0, -1)", x.taken(0, -1), BAD);
        due.is("taken(0, 7)", x.taken(0, 7), 0);
        x.clear();
        x.offer(5, 10, 2);
        due.is("way(20)", x.way(20), 10);
        due.is("way(21)", x.way(21), NO);
        due.is("taken(21, 0)", x.taken(21, 0), NO);
        due.is("taken(21, 1)", x.taken(21, 1), BAD);
        x.offer(1, 1, 1);
        due.is("way(21) with one more", x.way(21), 11);
    }

    private static void ties() {
        MilesHall x = new MilesHall();
        x.offer(1, 1, 9);
        x.offer(2, 2, 9);
        x.offer(4, 4, 9);
        due.is("fewest coins", x.way(6), 6);
        due.is("fewest takings, 0", x.taken(6, 0), 0);
        due.is("fewest takings, 1", x.taken(6, 1), 1);
        due.is("fewest takings, 2", x.taken(6, 2), 1);
        x.clear();
        x.offer(3, 3, 9);
        x.offer(1, 1, 9);
        x.offer(2, 2, 9);
        due.is("4 by two", x.way(4), 4);
        due.is("offer 0 more often, 0", x.taken(4, 0), 1);
        due.is("offer 0 more often, 1", x.taken(4, 1), 1);
        due.is("offer 0 more often, 2", x.taken(4, 2), 0);
        x.clear();
        x.offer(1, 1, 9);
        x.offer(2, 2, 9);
        x.offer(3, 3, 9);
        due.is("again 4 by two, 0", x.taken(4, 0), 1);
        due.is("again 4 by two, 1", x.taken(4, 1), 0);
        due.is("again 4 by two, 2", x.taken(4, 2), 1);
        x.clear();
        x.offer(7, 5, 1);
        x.offer(7, 9, 1);
        due.is("the same coins", x.way(3), 7);
        due.is("the first of them", x.taken(3, 0), 1);
    }

    private static void told(MilesHall x, int n, int want, int... rows) {
        for (int row : rows) {
            x.tell(row);
        }
        due.is("count(8)", x.count(8), rows.length);
        due.is("check(" + n + ") of " + java.util.Arrays.toString(rows), x.check(n), want);
        due.is("none wait", x.count(8), 0);
    }

    private static void tells() {
        MilesHall x = new MilesHall();
        for (int i = 1; i <= 16; i++) {
            due.is("tell", x.tell(i), i);
        }
        due.is("tell 17", x.tell(0), FULL);
        due.is("check one too many", x.check(0), 1);
        told(x, 0, 0);
        told(x, 1, NO, 1);
        told(x, -1, BAD, 1);
        told(x, 3001, BAD, 1, 2);
        x.offer(10, 7, 3);
        x.offer(5, 3, 9);
        told(x, 22, 0, 3, 1);
        told(x, 22, 1);
        told(x, 22, 2, 3);
        told(x, 22, 3, 3, 1, 0);
        told(x, 22, 1, 2, 1);
        told(x, 22, 2, 3, 2);
        told(x, 22, 2, 3, 2, 0);
        told(x, 22, 1, Integer.MIN_VALUE, 1);
        told(x, 0, 0, 0, 0);
    }

    /** Small sets of OFFERS against all that can be taken. */
    private static void againstAll() {
        Random random = new Random(7);
        for (int round = 0; round < 300; round++) {
            MilesHall x = new MilesHall();
            int many = 1 + random.nextInt(4);
            int[][] offers = new int[many][];
            for (int i = 0; i < many; i++) {
                offers[i] = new int[] {1 + random.nextInt(6), 1 + random.nextInt(6), 1 + random.nextInt(4)};
                x.offer(offers[i][0], offers[i][1], offers[i][2]);
            }
            for (int n : new int[] {random.nextInt(40), random.nextInt(20), random.nextInt(10)}) {
                int[] best = null;
                for (int[] way = new int[many]; way != null; way = next(way, offers)) {
                    if (sum(way, offers, 1) >= n && (best == null || isBetter(way, best, offers))) {
                        best = way.clone();
                    }
                }
                due.is("random way(" + n + ")", x.way(n), best == null ? NO : sum(best, offers, 0));
                for (int i = 0; i < many; i++) {
                    due.is("random taken", x.taken(n, i), best == null ? NO : best[i]);
                }
            }
        }
    }

    private static int[] next(int[] way, int[][] offers) {
        int[] next = way.clone();
        for (int i = 0; i < next.length; i++) {
            if (next[i] < offers[i][2]) {
                next[i]++;
                return next;
            }
            next[i] = 0;
        }
        return null;
    }

    private static int sum(int[] way, int[][] offers, int what) {
        int sum = 0;
        for (int i = 0; i < way.length; i++) {
            sum += way[i] * offers[i][what];
        }
        return sum;
    }

    private static boolean isBetter(int[] a, int[] b, int[][] offers) {
        if (sum(a, offers, 0) != sum(b, offers, 0)) {
            return sum(a, offers, 0) < sum(b, offers, 0);
        }
        int takingsA = java.util.Arrays.stream(a).sum();
        int takingsB = java.util.Arrays.stream(b).sum();
        if (takingsA != takingsB) {
            return takingsA < takingsB;
        }
        return java.util.Arrays.compare(a, b) > 0;
    }
}
