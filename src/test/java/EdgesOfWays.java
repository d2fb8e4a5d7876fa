/** Promises 27 to 33: OFFERS, THE WAY, its ROWS and their check; RINGS. */
final class EdgesOfWays {
    private final Runs runs;

    EdgesOfWays(Runs runs) {
        this.runs = runs;
    }

    void all() {
        offer();
        clear();
        way();
        taken();
        tell();
        check();
        ring();
    }

    private void offer() {
        runs.promise(27);
        runs.edge("OFFERS, 8 at most, numbered from 0", "7 x offer 1 1 1 = 0.. ; count 7 = 7 ; offer 1 1 1 = 7 ; offer 1 1 1 = FULL ; count 7 = 8 ; way 8 = 8 ; way 9 = NO");
        runs.edge("of several the one that stands first: BAD, then FULL", "8 x offer 1 1 1 ; offer 0 1 1 = BAD ; offer 1 0 1 = BAD ; offer 1 1 0 = BAD ; offer 10000 1 1 = BAD ; offer 1 1000 1 = BAD ; offer 1 1 10 = BAD");
        runs.edge("COINS 1 .. 9999", "offer 0 1 1 = BAD ; offer -1 1 1 = BAD ; offer 1 1 1 = 0 ; offer 9999 1 1 = 1 ; offer 10000 1 1 = BAD ; way 1 = 1 ; way 2 = 10000");
        runs.edge("POINTS 1 .. 999", "offer 1 0 1 = BAD ; offer 1 -1 1 = BAD ; offer 1 999 1 = 0 ; offer 1 1000 1 = BAD ; offer 5 1 1 = 1 ; way 999 = 1 ; way 1000 = 6 ; way 1001 = NO");
        runs.edge("TIMES 1 .. 9", "offer 1 1 0 = BAD ; offer 1 1 -1 = BAD ; offer 1 1 10 = BAD ; offer 2 1 9 = 0 ; way 9 = 18 ; way 10 = NO ; offer 2 1 1 = 1 ; way 10 = 20 ; way 11 = NO");
        runs.edge("a refused one is not offered", "offer 5 5 1 ; way 5 = 5 ; offer 1 5 0 = BAD ; way 5 = 5 ; count 7 = 1");
        runs.edge("one more OFFER changes THE WAY", "offer 5 5 1 ; way 5 = 5 ; offer 4 5 1 ; way 5 = 4 ; taken 5 0 = 0 ; taken 5 1 = 1");
    }

    private void clear() {
        runs.promise(28);
        runs.edge("OFFERS are no more: how many there were", "clear = 0 ; offer 1 1 1 ; clear = 1 ; clear = 0 ; count 7 = 0 ; way 1 = NO ; way 0 = 0 ; taken 0 0 = BAD");
        runs.edge("when there were 8", "8 x offer 1 1 1 ; clear = 8 ; count 7 = 0 ; offer 9 9 9 = 0 ; way 1 = 9 ; way 81 = 81 ; way 82 = NO");
        runs.edge("THE WAY is not kept from OFFERS that are no more", "offer 5 5 9 ; way 45 = 45 ; clear = 1 ; way 45 = NO ; offer 7 5 8 ; way 40 = 56 ; way 41 = NO");
    }

    private void way() {
        runs.promise(29);
        runs.edge("n (0 .. 3000)", "offer 1 999 9 ; way -1 = BAD ; way 0 = 0 ; way 1 = 1 ; way 3000 = 4 ; way 3001 = BAD ; way MIN = BAD ; way MAX = BAD");
        runs.edge("to 0 POINTS nothing is taken", "offer 1 999 9 ; way 0 = 0 ; taken 0 0 = 0");
        runs.edge("POINTS together are n or more", "offer 10 7 3 ; way 6 = 10 ; way 7 = 10 ; way 8 = 20 ; way 14 = 20 ; way 15 = 30 ; way 21 = 30 ; way 22 = NO");
        runs.edge("NO: there is none", "way 1 = NO ; offer 1 5 2 ; way 10 = 2 ; way 11 = NO ; way 3000 = NO ; way 0 = 0");
        runs.edge("of several the one that stands first: BAD, then NO", "way 3001 = BAD ; way -1 = BAD ; way 3000 = NO");
        runs.edge("up to its TIMES", "offer 1 5 2 ; offer 50 1 1 ; way 10 = 2 ; way 11 = 52 ; taken 11 0 = 2 ; taken 11 1 = 1 ; way 12 = NO");
        runs.edge("the most of all: 72 takings of 9999 COINS", "8 x offer 9999 41 9 ; way 2952 = 719928 ; way 2953 = NO ; taken 2952 0 = 9 ; taken 2952 7 = 9");
        runs.edge("just to 3000", "8 x offer 9999 42 9 ; way 3000 = 719928 ; way 2983 = 719928 ; way 2982 = 709929 ; taken 2982 0 = 9 ; taken 2982 7 = 8");
        runs.edge("a smaller n behind a greater one, a greater behind a smaller", "offer 3 10 9 ; offer 40 100 9 ; way 90 = 27 ; way 1 = 3 ; way 990 = 387 ; way 10 = 3 ; way 11 = 6 ; way 991 = NO");
        runs.edge("that with the fewest COINS, however many takings", "offer 10 10 1 ; offer 1 1 9 ; offer 8 9 1 ; way 10 = 9 ; taken 10 0 = 0 ; taken 10 1 = 1 ; taken 10 2 = 1");
        runs.edge("more than n may be cheaper", "offer 1 1 9 ; offer 2 50 1 ; way 2 = 2 ; taken 2 0 = 0 ; taken 2 1 = 1 ; way 3 = 2 ; way 50 = 2 ; way 51 = 3");
    }

    private void taken() {
        runs.promise(30);
        runs.edge("of several that with the fewest takings", "offer 1 1 9 ; offer 2 2 9 ; offer 4 4 9 ; way 8 = 8 ; taken 8 0 = 0 ; taken 8 1 = 0 ; taken 8 2 = 2");
        runs.edge("then the one that takes OFFER 0 more often", "offer 2 2 9 ; offer 1 1 9 ; offer 3 3 9 ; way 4 = 4 ; taken 4 0 = 2 ; taken 4 1 = 0 ; taken 4 2 = 0");
        runs.edge("then OFFER 1, and so on", "offer 100 1 1 ; offer 2 2 9 ; offer 1 1 9 ; offer 3 3 9 ; way 4 = 4 ; taken 4 0 = 0 ; taken 4 1 = 2 ; taken 4 2 = 0 ; taken 4 3 = 0");
        runs.edge("OFFERS that are the same", "8 x offer 5 5 2 ; way 25 = 25 ; taken 25 0 = 2 ; taken 25 1 = 2 ; taken 25 2 = 1 ; taken 25 3 = 0 ; taken 25 7 = 0");
        runs.edge("OFFERS that are the same, up to the last", "8 x offer 5 5 9 ; way 360 = 360 ; taken 360 0 = 9 ; taken 360 7 = 9 ; way 356 = 360 ; way 355 = 355 ; taken 355 7 = 8 ; taken 355 6 = 9");
        runs.edge("the one that takes OFFER 0 more often, also if it has more POINTS than are needed", "offer 7 5 1 ; offer 7 9 1 ; way 5 = 7 ; taken 5 0 = 1 ; taken 5 1 = 0 ; taken 6 0 = 0 ; taken 6 1 = 1");
        runs.edge("fewer takings ahead of OFFER 0", "offer 5 5 9 ; offer 10 10 9 ; way 10 = 10 ; taken 10 0 = 0 ; taken 10 1 = 1");
        runs.edge("fewer COINS ahead of fewer takings", "offer 9 10 9 ; offer 4 5 9 ; way 10 = 8 ; taken 10 0 = 0 ; taken 10 1 = 2");
        runs.edge("BAD: n, offer", """
            taken 0 0 = BAD ; offer 1 999 9 ; taken -1 0 = BAD ; taken 0 0 = 0 ; taken 3000 0 = 4 ; taken 3001 0 = BAD ; taken 0 -1 = BAD ; taken 0 1 = BAD
            taken MIN 0 = BAD ; taken MAX 0 = BAD ; taken 0 MIN = BAD ; taken 0 MAX = BAD
            """);
        runs.edge("of several the one that stands first: BAD, then NO", "offer 1 5 2 ; taken 10 0 = 2 ; taken 11 0 = NO ; taken 11 1 = BAD ; taken 11 -1 = BAD ; taken 3001 0 = BAD");
    }

    private void tell() {
        runs.promise(31);
        runs.edge("One more number waits: how many. FULL: 16 wait", "15 x tell 5 = 1.. ; count 8 = 15 ; tell 5 = 16 ; tell 5 = FULL ; count 8 = 16 ; check 0 = 1 ; tell 5 = 1");
        runs.edge("any int", "tell MIN = 1 ; tell MAX = 2 ; tell 0 = 3 ; tell -1 = 4 ; count 8 = 4");
    }

    private void check() {
        runs.promise(32);
        String two = "offer 10 7 3 ; offer 5 3 9\n";
        runs.edge("ROWS of THE WAY to n POINTS: 0", two + "tell 3 ; tell 1 ; check 22 = 0 ; count 8 = 0");
        runs.edge("else 1 and how many stand right ahead of the first that is not", two + "tell 2 ; tell 1 ; check 22 = 1 ; tell 3 ; tell 2 ; check 22 = 2 ; tell 4 ; tell 2 ; check 22 = 1 ; tell 3 ; tell 0 ; check 22 = 2");
        runs.edge("or is missing", two + "check 22 = 1 ; tell 3 ; check 22 = 2 ; tell 2 ; check 22 = 1");
        runs.edge("or one too many", two + "tell 3 ; tell 1 ; tell 0 ; check 22 = 3 ; tell 3 ; tell 1 ; tell 0 ; tell 0 ; check 22 = 3 ; tell 3 ; tell 0 ; tell 0 ; check 22 = 2");
        runs.edge("(none do then, whatever is answered)", two + "tell 3 ; tell 1 ; check 22 = 0 ; count 8 = 0 ; tell 3 ; check 22 = 2 ; count 8 = 0 ; tell 3 ; check -1 = BAD ; count 8 = 0 ; tell 3 ; check 49 = NO ; count 8 = 0 ; check 22 = 1");
        runs.edge("BAD; NO", two + "check -1 = BAD ; check 0 = 1 ; check 48 = 1 ; check 49 = NO ; check 3000 = NO ; check 3001 = BAD ; check MIN = BAD ; check MAX = BAD");
        runs.edge("without OFFERS there are no ROWS", "check 0 = 0 ; tell 0 ; check 0 = 1 ; check 1 = NO ; tell 0 ; check 1 = NO");
        runs.edge("8 ROWS, and 16 numbers", "8 x offer 5 5 1 ; 8 x tell 1 ; check 40 = 0 ; 16 x tell 1 ; check 40 = 9 ; 7 x tell 1 ; check 40 = 8 ; 9 x tell 1 ; check 40 = 9");
        runs.edge("8 ROWS, the last wrong", "8 x offer 5 5 1 ; 7 x tell 1 ; tell 0 ; check 40 = 8 ; 7 x tell 1 ; tell 2 ; check 40 = 8 ; 7 x tell 1 ; tell 0 ; check 35 = 0");
        runs.edge("ROWS of another WAY that costs as much are not", "offer 5 5 1 ; offer 5 5 1 ; tell 0 ; tell 1 ; check 5 = 1 ; tell 1 ; tell 0 ; check 5 = 0");
    }

    private void ring() {
        runs.promise(33);
        runs.edge("if they are 3 or more", "member 0 1 ; member 0 1 ; ring 0 = NONE ; member 0 1 ; ring 0 = 7 ; ring 1 = NONE ; member 0 1 ; ring 0 = 15 ; marks 3 0 ; ring 0 = 7 ; marks 0 0 ; ring 0 = NONE");
        runs.edge("BAD: i below 0; NONE: there are not so many", "ring -1 = BAD ; ring MIN = BAD ; ring 0 = NONE ; ring MAX = NONE ; 3 x member 0 1 ; ring -1 = BAD ; ring 0 = 7 ; ring 1 = NONE ; ring MAX = NONE");
        runs.edge("a MARK in common: bits 0 .. 11", "member 0 1 ; member 0 2049 ; member 0 2048 ; ring 0 = 7 ; marks 1 1 ; ring 0 = NONE ; marks 1 2048 ; ring 0 = NONE ; marks 0 4095 ; ring 0 = 7");
        runs.edge("who has no MARK hangs with nobody", "member 0 0 ; member 0 0 ; member 0 0 ; ring 0 = NONE ; 3 x member 0 4 ; ring 0 = 56");
        runs.edge("all that hang together so, over others", "member 0 1 ; member 0 6 ; member 0 3 ; ring 0 = 7 ; member 0 24 ; member 0 48 ; ring 1 = NONE ; member 0 36 ; ring 0 = 63");
        runs.edge("a chain of all 10, from the last to the first", """
            member 0 1 ; member 0 512 ; member 0 768 ; member 0 384 ; member 0 192 ; member 0 96 ; member 0 48 ; member 0 24 ; member 0 12 ; member 0 7
            ring 0 = 1023 ; ring 1 = NONE ; marks 5 64 ; ring 0 = 961 ; ring 1 = 62
            """);
        runs.edge("by their least MEMBERS", "member 0 4 ; member 0 2 ; member 0 1 ; member 0 1 ; member 0 2 ; member 0 1 ; member 0 2 ; ring 0 = 82 ; ring 1 = 44 ; ring 2 = NONE ; member 0 4 ; member 0 4 ; ring 0 = 385 ; ring 1 = 82 ; ring 2 = 44 ; ring 3 = NONE");
        runs.edge("two that hang together are passed over", "member 0 1 ; member 0 1 ; member 0 2 ; member 0 2 ; member 0 2 ; ring 0 = 28 ; ring 1 = NONE");
        runs.edge("three RINGS of three, and one is left", "3 x member 0 1 ; 3 x member 0 2 ; 3 x member 0 4 ; member 0 8 ; ring 0 = 7 ; ring 1 = 56 ; ring 2 = 448 ; ring 3 = NONE");
    }
}
