/** Every argument of every call at, below and above its edges, and every other refusal, where there is much to be changed. */
final class EdgesOfArguments {
    /** TODAY 15; 4 MEMBERS; LINES 0 .. 6, SPENDS are 2, 5 and 6, 3 is WITHDRAWN; 2 FLIGHTS, 3 ASKS, 2 OFFERS, an image. */
    private static final String SCENE = """
        member 0 1 ; member 1 3 ; member 3 2 ; member 2 8
        pool 0 1 ; pool 1 1
        tape 'earn l+t*100 lapse 400 price l*2+o tier q/500' ; terms 0
        fly 0 0 500 1 20 ; fly 1 0 300 12 0
        days 10
        spend 0 5 200 2 ; gift 1 6 50 2 ; back 2 10 ; withdraw 3
        flight 20 100 1 2 ; flight 1200 50 0 1
        ask 0 0 1 ; ask 1 0 0 ; settle 0 ; ask 2 1 3
        offer 10 7 3 ; offer 100 999 9
        sheet 0 5 ; mark 0 1 77 ; sheet 1 16
        rule 2 100 ; rate 1 0 500
        keep ; days 5
        tell 2 ; tell 0
        tape 'earn 1 lapse 2 price 3 tier 1'
        """;
    private static final String BAD = "BAD", INDEX = "INDEX";

    private final Runs runs;

    EdgesOfArguments(Runs runs) {
        this.runs = runs;
    }

    void all() {
        scene();
        membersAndLines();
        standing();
        tapeAndSeats();
        waysAndSheets();
        full();
        notNow();
        missing();
    }

    private void scene() {
        runs.promise(39);
        runs.edge("the scene is as the table of arguments needs it", SCENE + """
            count 0 = 4 ; count 1 = 7 ; count 2 = 1 ; count 3 = 1 ; count 4 = 2 ; count 5 = 3 ; count 6 = 1 ; count 7 = 2
            count 8 = 2 ; count 9 = 29 ; count 10 = 15 ; line 5 0 = 1 ; line 6 0 = 1
            """);
    }

    /** The call with each argument right but the one at the place, which goes over the edges least and most. */
    private void arg(int promise, String call, int at, int least, int most, String refusal) {
        runs.promise(promise);
        String range = call + ", argument " + at + " is " + least + " .. " + most;
        for (int v : new int[] {least, most}) {
            runs.edge(range, SCENE + with(call, at, v) + " = ok");
        }
        for (int v : new int[] {least - 1, most + 1, Integer.MIN_VALUE, Integer.MAX_VALUE}) {
            runs.edge(range, SCENE + with(call, at, v) + " = " + refusal);
        }
    }

    private static String with(String call, int at, int v) {
        String[] words = call.split(" ");
        words[at + 1] = String.valueOf(v);
        return String.join(" ", words);
    }

    private void membersAndLines() {
        arg(2, "member 0 0", 0, 0, 3, BAD);
        arg(2, "member 0 0", 1, 0, 4095, BAD);
        arg(3, "is 0 0", 0, 0, 3, BAD);
        arg(3, "is 0 0", 1, 0, 3, BAD);
        arg(4, "pool 0 0", 0, 0, 3, BAD);
        arg(4, "pool 0 0", 1, 0, 2, BAD);
        arg(5, "marks 0 0", 0, 0, 3, BAD);
        arg(5, "marks 0 0", 1, 0, 4095, BAD);
        arg(6, "lay 0", 0, 0, 1, BAD);
        arg(7, "days 1", 0, 1, 100, BAD);
        arg(8, "rule 0 50", 0, 0, 2, BAD);
        arg(8, "rule 0 50", 1, 0, 360, BAD);
        arg(8, "rule 1 50", 1, 1, 999, BAD);
        arg(8, "rule 2 50", 1, 0, 999, BAD);
        arg(9, "fly 0 0 500 0 0", 0, 0, 3, BAD);
        arg(9, "fly 0 0 500 0 0", 1, 0, 15, BAD);
        arg(9, "fly 0 0 500 0 0", 2, 1, 9999, BAD);
        arg(9, "fly 0 0 500 0 0", 4, 0, 9999, BAD);
        for (int clas = 0; clas < 4; clas++) {
            arg(9, "fly 0 0 500 0 0", 3, 10 * clas, 10 * clas + 3, BAD);
        }
        arg(10, "spend 0 0 1 0", 0, 0, 3, BAD);
        arg(10, "spend 0 0 1 0", 1, 0, 15, BAD);
        arg(10, "spend 0 0 1 0", 2, 1, 99999, BAD);
        arg(10, "spend 0 0 1 0", 3, 0, 3, BAD);
        arg(11, "gift 0 0 1 1", 0, 0, 3, BAD);
        arg(11, "gift 0 0 1 1", 1, 0, 15, BAD);
        arg(11, "gift 0 0 1 1", 2, 1, 99999, BAD);
        arg(11, "gift 1 0 1 0", 3, 0, 3, BAD);
        arg(12, "back 2 15", 1, 5, 15, BAD);
        arg(12, "back 5 15", 0, 5, 6, BAD);
        arg(13, "withdraw 0", 0, 0, 6, BAD);
        arg(14, "line 0 0", 0, 0, 6, BAD);
        arg(14, "line 0 0", 1, 0, 6, BAD);
    }

    private void standing() {
        arg(15, "stands 0 15 15 0", 0, 0, 3, BAD);
        arg(15, "stands 0 15 15 0", 1, 0, 1200, BAD);
        arg(15, "stands 0 15 15 0", 2, 0, 1200, BAD);
        arg(15, "stands 0 15 15 0", 3, 0, 4, BAD);
        arg(16, "brought 0 15 15", 0, 0, 6, BAD);
        arg(16, "brought 0 15 15", 1, 0, 1200, BAD);
        arg(16, "brought 0 15 15", 2, 0, 1200, BAD);
        arg(17, "owes 1 15 15", 0, 1, 3, BAD);
        arg(17, "owes 1 15 15", 1, 0, 1200, BAD);
        arg(17, "owes 1 15 15", 2, 0, 1200, BAD);
        arg(18, "rate 1 0 10", 0, 1, 3, BAD);
        arg(18, "rate 1 0 10", 1, 0, 1, BAD);
        arg(18, "rate 1 0 10", 2, 0, 999, BAD);
        arg(18, "rate 1 1 10", 2, 0, 999, BAD);
    }

    private void tapeAndSeats() {
        arg(20, "trim 0", 0, 0, 29, BAD);
        arg(22, "flight 20 100 0 1", 0, 16, 1200, BAD);
        arg(22, "flight 20 100 0 1", 1, 1, 9999, BAD);
        arg(22, "flight 20 100 0 1", 2, 0, 3, BAD);
        arg(22, "flight 20 100 0 1", 3, 0, 9, BAD);
        arg(23, "ask 0 0 0", 0, 0, 3, BAD);
        arg(23, "ask 0 0 0", 1, 0, 1, BAD);
        arg(23, "ask 0 0 0", 2, 0, 3, BAD);
        arg(24, "settle 0", 0, 0, 1, BAD);
        arg(25, "asked 0 0", 0, 0, 2, BAD);
        arg(25, "asked 0 0", 1, 0, 4, BAD);
        arg(26, "open 0", 0, 0, 1, BAD);
    }

    private void waysAndSheets() {
        arg(27, "offer 5 5 5", 0, 1, 9999, BAD);
        arg(27, "offer 5 5 5", 1, 1, 999, BAD);
        arg(27, "offer 5 5 5", 2, 1, 9, BAD);
        arg(29, "way 10", 0, 0, 3000, BAD);
        arg(30, "taken 10 0", 0, 0, 3000, BAD);
        arg(30, "taken 10 0", 1, 0, 1, BAD);
        arg(32, "check 10", 0, 0, 3000, BAD);
        arg(37, "mark 0 0 1", 0, 0, 1, BAD);
        arg(37, "mark 0 0 1", 1, 0, 4, INDEX);
        arg(37, "mark 1 0 1", 1, 0, 15, INDEX);
        arg(38, "copy 0 0 1 0 1", 0, 0, 1, BAD);
        arg(38, "copy 0 0 1 0 1", 1, 0, 4, INDEX);
        arg(38, "copy 0 0 1 0 1", 2, 0, 1, BAD);
        arg(38, "copy 0 0 1 0 1", 3, 0, 15, INDEX);
        arg(38, "copy 0 0 1 0 1", 4, 0, 5, INDEX);
        arg(38, "copy 1 0 0 0 1", 4, 0, 5, INDEX);
        arg(38, "copy 1 0 1 0 1", 4, 0, 16, INDEX);
        arg(39, "count 0", 0, 0, 10, BAD);
    }

    private void refused(int promise, String sentence, String run) {
        runs.promise(promise);
        runs.edge(sentence + ", among much else", run);
    }

    private void full() {
        refused(2, "FULL", SCENE + "6 x member 0 0 = 4.. ; member 0 0 = FULL");
        String lines = SCENE + "93 x fly 0 0 1 0 0 = 7.. ;";
        refused(9, "FULL", lines + "fly 0 0 1 0 0 = FULL");
        refused(10, "FULL", lines + "spend 0 0 1 0 = FULL");
        refused(11, "FULL", lines + "gift 0 0 1 1 = FULL");
        refused(12, "FULL", lines + "back 2 15 = FULL");
        refused(19, "FULL", SCENE + "8 x feed 0 0 0 ; count 9 = 125 ; feed 0 0 0 = FULL");
        String terms = SCENE + "tape 'earn 1 lapse 2 price 3 tier 1' ; terms 100 ;".repeat(3);
        refused(21, "FULL", terms + "tape 'earn 1 lapse 2 price 3 tier 2' ; terms 100 = FULL");
        refused(22, "FULL", SCENE + "6 x flight 20 1 0 0 ; flight 20 1 0 0 = FULL");
        refused(23, "FULL", SCENE + "27 x ask 0 1 0 ; ask 0 1 0 = FULL");
        refused(27, "FULL", SCENE + "6 x offer 1 1 1 ; offer 1 1 1 = FULL");
        refused(31, "FULL", SCENE + "14 x tell 5 ; tell 5 = FULL");
    }

    private void notNow() {
        refused(7, "BAD: also if it would be above 1200", SCENE + "11 x days 100 ; days 84 = 1199 ; days 2 = BAD");
        refused(11, "BAD: also to oneself", SCENE + "gift 1 0 1 1 = BAD");
        refused(12, "BAD: no SPEND", SCENE + "back 0 15 = BAD ; back 3 15 = BAD ; back 4 15 = BAD");
        refused(13, "NO: it is", SCENE + "withdraw 3 = NO");
        refused(16, "NO: it is not KNOWN then, or about a later DAY", SCENE + "brought 5 9 15 = NO ; brought 5 15 9 = NO ; brought 3 15 15 = NO");
        refused(21, "BAD", SCENE + "terms -1 = BAD");
        refused(21, "BAD", SCENE + "terms 1201 = BAD");
        refused(21, "NO: too soon", SCENE + "terms 44 = NO");
        refused(21, "a fault", SCENE + "trim 28 ; terms 45 = -128");
        refused(23, "NO: the FLIGHT's DAY is not behind TODAY", SCENE + "days 5 ; ask 0 0 0 = NO");
        refused(24, "NO: its DAY is not behind TODAY", SCENE + "days 5 ; settle 0 = NO");
        String fewer = SCENE.replace("offer 100 999 9", "offer 100 99 9");
        refused(29, "NO: there is none", fewer + "way 912 = 930 ; way 913 = NO");
        refused(30, "NO", fewer + "taken 913 0 = NO");
        refused(32, "NO", fewer + "check 913 = NO");
        refused(33, "BAD: i below 0", SCENE + "ring -1 = BAD");
        refused(35, "NO: there is none", SCENE.replace("keep ;", "") + "again = NO");
    }

    private void missing() {
        String one = SCENE.replace("sheet 1 16", "");
        refused(6, "NOTHING", one + "lay 1 = NOTHING");
        refused(36, "BAD", SCENE + "sheet 2 5 = BAD ; sheet -1 5 = BAD ; sheet 0 17 = BAD ; sheet 1 17 = BAD");
        refused(36, "SIZE", SCENE + "sheet 0 -1 = SIZE ; sheet 1 MIN = SIZE");
        refused(37, "NOTHING", one + "mark 1 0 5 = NOTHING");
        refused(38, "NOTHING", one + "copy 0 1 1 0 1 = NOTHING ; copy 1 0 0 0 1 = NOTHING ; copy 1 0 1 0 0 = NOTHING");
    }
}
