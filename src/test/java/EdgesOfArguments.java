/** Every argument of every call: the least that is right, the most, one below, one above, and the farthest ints. */
final class EdgesOfArguments {
    /** TODAY 15; 4 MEMBERS; LINES 0 .. 6, SPENDS are 2, 5 and 6, 3 is WITHDRAWN; 2 FLIGHTS, 3 ASKS, 2 OFFERS, an image. */
    private static final String SCENE = """
        member 0 1 ; member 1 3 ; member 3 2 ; member 2 8
        pool 0 1 ; pool 1 1
        tape 'earn l+t*100 lapse 400 price l*2+o tier q/500' ; terms 0
        fly 0 0 500 1 20 ; fly 1 0 300 12 0
        days 10
        spend 0 5 200 2 ; gift 1 6 50 2 ; back 2 10 ; withdraw 3
        flight 20 100 1 2 ; flight 1200 50 0 1
        ask 0 0 1 ; ask 1 0 0 ; settle 0 ; ask 2 1 3
        offer 10 7 3 ; offer 100 999 9
        sheet 0 5 ; mark 0 1 77 ; sheet 1 16
        rule 2 100 ; rate 1 0 500
        keep ; days 5
        tell 2 ; tell 0
        tape 'earn 1 lapse 2 price 3 tier 1'
        """;
    private static final String BAD = "BAD", INDEX = "INDEX";

    private final Runs runs;

    EdgesOfArguments(Runs runs) {
        this.runs = runs;
    }

    void all() {
        scene();
        membersAndLines();
        standing();
        tapeAndSeats();
        waysAndSheets();
    }

    private void scene() {
        runs.promise(39);
        runs.edge("the scene is as the table of arguments needs it", SCENE + """
            count 0 = 4 ; count 1 = 7 ; count 2 = 1 ; count 3 = 1 ; count 4 = 2 ; count 5 = 3 ; count 6 = 1 ; count 7 = 2
            count 8 = 2 ; count 9 = 29 ; count 10 = 15 ; line 5 0 = 1 ; line 6 0 = 1
            """);
    }

    /** The call with each argument right but the one at the place, which goes over the edges least and most. */
    private void arg(int promise, String call, int at, int least, int most, String refusal) {
        runs.promise(promise);
        String range = call + ", argument " + at + " is " + least + " .. " + most;
        for (int v : new int[] {least, most}) {
            runs.edge(range, SCENE + with(call, at, v) + " = ok");
        }
        for (int v : new int[] {least - 1, most + 1, Integer.MIN_VALUE, Integer.MAX_VALUE}) {
            runs.edge(range, SCENE + with(call, at, v) + " = " + refusal);
        }
    }

    private static String with(String call, int at, int v) {
        String[] words = call.split(" ");
        words[at + 1] = String.valueOf(v);
        return String.join(" ", words);
    }

    private void membersAndLines() {
        arg(2, "member 0 0", 0, 0, 3, BAD);
        arg(2, "member 0 0", 1, 0, 4095, BAD);
        arg(3, "is 0 0", 0, 0, 3, BAD);
        arg(3, "is 0 0", 1, 0, 3, BAD);
        arg(4, "pool 0 0", 0, 0, 3, BAD);
        arg(4, "pool 0 0", 1, 0, 2, BAD);
        arg(5, "marks 0 0", 0, 0, 3, BAD);
        arg(5, "marks 0 0", 1, 0, 4095, BAD);
        arg(6, "lay 0", 0, 0, 1, BAD);
        arg(7, "days 1", 0, 1, 100, BAD);
        arg(8, "rule 0 50", 0, 0, 2, BAD);
        arg(8, "rule 0 50", 1, 0, 360, BAD);
        arg(8, "rule 1 50", 1, 1, 999, BAD);
        arg(8, "rule 2 50", 1, 0, 999, BAD);
        arg(9, "fly 0 0 500 0 0", 0, 0, 3, BAD);
        arg(9, "fly 0 0 500 0 0", 1, 0, 15, BAD);
        arg(9, "fly 0 0 500 0 0", 2, 1, 9999, BAD);
        arg(9, "fly 0 0 500 0 0", 4, 0, 9999, BAD);
        for (int clas = 0; clas < 4; clas++) {
            arg(9, "fly 0 0 500 0 0", 3, 10 * clas, 10 * clas + 3, BAD);
        }
        arg(10, "spend 0 0 1 0", 0, 0, 3, BAD);
        arg(10, "spend 0 0 1 0", 1, 0, 15, BAD);
        arg(10, "spend 0 0 1 0", 2, 1, 99999, BAD);
        arg(10, "spend 0 0 1 0", 3, 0, 3, BAD);
        arg(11, "gift 0 0 1 1", 0, 0, 3, BAD);
        arg(11, "gift 0 0 1 1", 1, 0, 15, BAD);
        arg(11, "gift 0 0 1 1", 2, 1, 99999, BAD);
        arg(11, "gift 1 0 1 0", 3, 0, 3, BAD);
        arg(12, "back 2 15", 1, 5, 15, BAD);
        arg(12, "back 5 15", 0, 5, 6, BAD);
        arg(13, "withdraw 0", 0, 0, 6, BAD);
        arg(14, "line 0 0", 0, 0, 6, BAD);
        arg(14, "line 0 0", 1, 0, 6, BAD);
    }

    private void standing() {
        arg(15, "stands 0 15 15 0", 0, 0, 3, BAD);
        arg(15, "stands 0 15 15 0", 1, 0, 1200, BAD);
        arg(15, "stands 0 15 15 0", 2, 0, 1200, BAD);
        arg(15, "stands 0 15 15 0", 3, 0, 4, BAD);
        arg(16, "brought 0 15 15", 0, 0, 6, BAD);
        arg(16, "brought 0 15 15", 1, 0, 1200, BAD);
        arg(16, "brought 0 15 15", 2, 0, 1200, BAD);
        arg(17, "owes 1 15 15", 0, 1, 3, BAD);
        arg(17, "owes 1 15 15", 1, 0, 1200, BAD);
        arg(17, "owes 1 15 15", 2, 0, 1200, BAD);
        arg(18, "rate 1 0 10", 0, 1, 3, BAD);
        arg(18, "rate 1 0 10", 1, 0, 1, BAD);
        arg(18, "rate 1 0 10", 2, 0, 999, BAD);
        arg(18, "rate 1 1 10", 2, 0, 999, BAD);
    }

    private void tapeAndSeats() {
        arg(20, "trim 0", 0, 0, 29, BAD);
        arg(22, "flight 20 100 0 1", 0, 16, 1200, BAD);
        arg(22, "flight 20 100 0 1", 1, 1, 9999, BAD);
        arg(22, "flight 20 100 0 1", 2, 0, 3, BAD);
        arg(22, "flight 20 100 0 1", 3, 0, 9, BAD);
        arg(23, "ask 0 0 0", 0, 0, 3, BAD);
        arg(23, "ask 0 0 0", 1, 0, 1, BAD);
        arg(23, "ask 0 0 0", 2, 0, 3, BAD);
        arg(24, "settle 0", 0, 0, 1, BAD);
        arg(25, "asked 0 0", 0, 0, 2, BAD);
        arg(25, "asked 0 0", 1, 0, 4, BAD);
        arg(26, "open 0", 0, 0, 1, BAD);
    }

    private void waysAndSheets() {
        arg(27, "offer 5 5 5", 0, 1, 9999, BAD);
        arg(27, "offer 5 5 5", 1, 1, 999, BAD);
        arg(27, "offer 5 5 5", 2, 1, 9, BAD);
        arg(29, "way 10", 0, 0, 3000, BAD);
        arg(30, "taken 10 0", 0, 0, 3000, BAD);
        arg(30, "taken 10 0", 1, 0, 1, BAD);
        arg(32, "check 10", 0, 0, 3000, BAD);
        arg(37, "mark 0 0 1", 0, 0, 1, BAD);
        arg(37, "mark 0 0 1", 1, 0, 4, INDEX);
        arg(37, "mark 1 0 1", 1, 0, 15, INDEX);
        arg(38, "copy 0 0 1 0 1", 0, 0, 1, BAD);
        arg(38, "copy 0 0 1 0 1", 1, 0, 4, INDEX);
        arg(38, "copy 0 0 1 0 1", 2, 0, 1, BAD);
        arg(38, "copy 0 0 1 0 1", 3, 0, 15, INDEX);
        arg(38, "copy 0 0 1 0 1", 4, 0, 5, INDEX);
        arg(38, "copy 1 0 0 0 1", 4, 0, 5, INDEX);
        arg(38, "copy 1 0 1 0 1", 4, 0, 16, INDEX);
        arg(39, "count 0", 0, 0, 10, BAD);
    }
}
