/** Promises 9 to 14: LINES as they are told, withdrawn and read. */
final class EdgesOfLines {
    private final Runs runs;

    EdgesOfLines(Runs runs) {
        this.runs = runs;
    }

    void all() {
        fly();
        spend();
        gift();
        back();
        withdraw();
        line();
    }

    private void fly() {
        runs.promise(9);
        runs.edge("LINES, 100 at most, numbered from 0", """
            member 0 0 ; member 0 0 ; 99 x fly 0 0 1 0 0 = 0..
            count 1 = 99 ; fly 0 0 1 0 0 = 99 ; fly 0 0 1 0 0 = FULL ; count 1 = 100 ; line 99 0 = 0 ; line 100 0 = BAD
            """);
        runs.edge("of several the one that stands first: BAD, then FULL", """
            member 0 0 ; 100 x fly 0 0 1 0 0
            fly 1 0 1 0 0 = BAD ; fly 0 1 1 0 0 = BAD ; fly 0 0 0 0 0 = BAD ; fly 0 0 1 4 0 = BAD ; fly 0 0 1 0 -1 = BAD
            """);
        runs.edge("a WITHDRAWN one still is one of the 100", "member 0 0 ; 100 x fly 0 0 1 0 0 ; withdraw 99 = 1 ; fly 0 0 1 0 0 = FULL ; count 1 = 100");
        runs.edge("about a DAY (0 .. TODAY)", """
            member 0 0 ; fly 0 -1 1 0 0 = BAD ; fly 0 1 1 0 0 = BAD ; fly 0 0 1 0 0 = 0
            days 10 ; fly 0 11 1 0 0 = BAD ; fly 0 10 1 0 0 = 1 ; fly 0 9 1 0 0 = 2 ; fly 0 0 1 0 0 = 3 ; fly 0 -1 1 0 0 = BAD
            """);
        runs.edge("about the last of all DAYS", "member 0 0 ; 12 x days 100 ; fly 0 1201 1 0 0 = BAD ; fly 0 1200 5 0 0 = 0 ; stands 0 1200 1200 0 = 5");
        runs.edge("a LEG 1 .. 9999", """
            member 0 0 ; fly 0 0 0 0 0 = BAD ; fly 0 0 1 0 0 = 0 ; fly 0 0 2 0 0 = 1 ; fly 0 0 9999 0 0 = 2 ; fly 0 0 10000 0 0 = BAD
            fly 0 0 -1 0 0 = BAD ; brought 0 0 0 = 1 ; brought 1 0 0 = 2 ; brought 2 0 0 = 9999
            """);
        runs.edge("a CLASS 0 .. 3, a PARTNER: how is 10 * CLASS and PARTNER", """
            member 0 0
            fly 0 0 1 -1 0 = BAD ; fly 0 0 1 0 0 = 0 ; fly 0 0 1 3 0 = 1 ; fly 0 0 1 4 0 = BAD ; fly 0 0 1 9 0 = BAD
            fly 0 0 1 10 0 = 2 ; fly 0 0 1 13 0 = 3 ; fly 0 0 1 14 0 = BAD ; fly 0 0 1 19 0 = BAD ; fly 0 0 1 20 0 = 4
            fly 0 0 1 23 0 = 5 ; fly 0 0 1 24 0 = BAD ; fly 0 0 1 29 0 = BAD ; fly 0 0 1 30 0 = 6 ; fly 0 0 1 33 0 = 7
            fly 0 0 1 34 0 = BAD ; fly 0 0 1 40 0 = BAD ; fly 0 0 1 43 0 = BAD ; fly 0 0 1 100 0 = BAD ; fly 0 0 1 -10 0 = BAD
            fly 0 0 1 -7 0 = BAD ; fly 0 0 1 MIN 0 = BAD ; fly 0 0 1 MAX 0 = BAD ; line 5 6 = 23 ; line 7 6 = 33
            """);
        runs.edge("COINS 0 .. 9999", """
            member 0 0 ; tape 'earn c lapse 9 price 1 tier 0' ; terms 0
            fly 0 0 1 0 -1 = BAD ; fly 0 0 1 0 0 = 0 ; fly 0 0 1 0 1 = 1 ; fly 0 0 1 0 9999 = 2 ; fly 0 0 1 0 10000 = BAD
            brought 0 0 0 = 0 ; brought 1 0 0 = 1 ; brought 2 0 0 = 9999
            """);
        runs.edge("a MEMBER", "fly 0 0 1 0 0 = BAD ; member 0 0 ; fly -1 0 1 0 0 = BAD ; fly 1 0 1 0 0 = BAD ; fly 0 0 1 0 0 = 0");
    }

    private void spend() {
        runs.promise(10);
        runs.edge("MILES 1 .. 99999", """
            member 0 0 ; spend 0 0 0 0 = BAD ; spend 0 0 -1 0 = BAD ; spend 0 0 1 0 = 0 ; spend 0 0 99999 0 = 1 ; spend 0 0 100000 0 = BAD
            line 0 5 = 1 ; line 1 5 = 99999
            """);
        runs.edge("at a PARTNER 0 .. 3", "member 0 0 ; spend 0 0 1 -1 = BAD ; spend 0 0 1 0 = 0 ; spend 0 0 1 3 = 1 ; spend 0 0 1 4 = BAD ; line 1 6 = 3");
        runs.edge("about a DAY (0 .. TODAY)", """
            member 0 0 ; spend 0 -1 1 0 = BAD ; spend 0 1 1 0 = BAD ; spend 0 0 1 0 = 0 ; days 3
            spend 0 4 1 0 = BAD ; spend 0 3 1 0 = 1 ; spend 0 0 1 0 = 2
            """);
        runs.edge("a MEMBER", "spend 0 0 1 0 = BAD ; member 0 0 ; spend -1 0 1 0 = BAD ; spend 1 0 1 0 = BAD ; spend 0 0 1 0 = 0");
        runs.edge("BAD; FULL", """
            member 0 0 ; 99 x spend 0 0 1 0 ; spend 0 0 1 0 = 99 ; spend 0 0 1 0 = FULL
            spend 1 0 1 0 = BAD ; spend 0 1 1 0 = BAD ; spend 0 0 0 0 = BAD ; spend 0 0 1 4 = BAD
            """);
    }

    private void gift() {
        runs.promise(11);
        runs.edge("MILES 1 .. 99999", """
            member 0 0 ; member 0 0 ; gift 0 0 0 1 = BAD ; gift 0 0 -1 1 = BAD ; gift 0 0 1 1 = 0 ; gift 0 0 99999 1 = 1
            gift 0 0 100000 1 = BAD ; line 1 5 = 99999
            """);
        runs.edge("BAD: also to oneself", "member 0 0 ; member 0 0 ; gift 0 0 1 0 = BAD ; gift 1 0 1 1 = BAD ; gift 0 0 1 1 = 0 ; gift 1 0 1 0 = 1");
        runs.edge("a MEMBER, another one", """
            gift 0 0 1 1 = BAD ; member 0 0 ; gift 0 0 1 1 = BAD ; gift 1 0 1 0 = BAD ; member 0 0
            gift -1 0 1 0 = BAD ; gift 0 0 1 -1 = BAD ; gift 2 0 1 0 = BAD ; gift 0 0 1 2 = BAD ; gift 0 0 1 1 = 0
            """);
        runs.edge("about a DAY (0 .. TODAY)", """
            member 0 0 ; member 0 0 ; gift 0 -1 1 1 = BAD ; gift 0 1 1 1 = BAD ; days 2 ; gift 0 3 1 1 = BAD ; gift 0 2 1 1 = 0 ; gift 0 0 1 1 = 1
            """);
        runs.edge("BAD; FULL", """
            member 0 0 ; member 0 0 ; 99 x gift 0 0 1 1 ; gift 0 0 1 1 = 99 ; gift 0 0 1 1 = FULL
            gift 0 0 1 0 = BAD ; gift 0 1 1 1 = BAD ; gift 0 0 0 1 = BAD ; gift 0 0 1 2 = BAD
            """);
    }

    private void back() {
        runs.promise(12);
        runs.edge("BAD: no SPEND", """
            member 0 0 ; member 0 0 ; back 0 0 = BAD ; fly 0 0 9 0 0 ; spend 0 0 1 0 ; gift 0 0 1 1
            back -1 0 = BAD ; back 0 0 = BAD ; back 2 0 = BAD ; back 3 0 = BAD ; back 1 0 = 3 ; back 3 0 = BAD ; back 4 0 = BAD
            """);
        runs.edge("BAD: about ahead of it", "member 0 0 ; days 9 ; spend 0 5 1 0 ; back 0 4 = BAD ; back 0 5 = 1 ; back 0 6 = 2 ; back 0 -1 = BAD");
        runs.edge("about a DAY (0 .. TODAY)", "member 0 0 ; days 9 ; spend 0 5 1 0 ; back 0 10 = BAD ; back 0 9 = 1 ; back 0 MAX = BAD ; back 0 MIN = BAD");
        runs.edge("of one SPEND there may be several, and of one that is WITHDRAWN", """
            member 0 0 ; spend 0 0 1 0 ; back 0 0 = 1 ; back 0 0 = 2 ; withdraw 0 = 1 ; back 0 0 = 3
            """);
        runs.edge("BAD; FULL", """
            member 0 0 ; days 2 ; spend 0 1 1 0 ; 98 x fly 0 0 1 0 0
            back 0 1 = 99 ; back 0 1 = FULL ; back 1 1 = BAD ; back 0 0 = BAD ; back 0 3 = BAD ; back 100 1 = BAD
            """);
    }

    private void withdraw() {
        runs.promise(13);
        runs.edge("BAD", "withdraw 0 = BAD ; member 0 0 ; fly 0 0 1 0 0 ; withdraw -1 = BAD ; withdraw 1 = BAD ; withdraw 0 = 1");
        runs.edge("NO: it is", """
            member 0 0 ; fly 0 0 1 0 0 ; days 3 ; withdraw 0 = 1 ; withdraw 0 = NO ; days 1 ; withdraw 0 = NO ; line 0 4 = 3 ; count 2 = 1
            """);
        runs.edge("One may be WITHDRAWN TODAY", """
            member 0 0 ; 3 x fly 0 0 1 0 0 ; withdraw 1 = 1 ; line 0 4 = NONE ; line 1 4 = 0 ; line 2 4 = NONE
            12 x days 100
            withdraw 0 = 1 ; line 0 4 = 1200 ; stands 0 0 1199 0 = 2 ; stands 0 0 1200 0 = 1 ; count 2 = 2
            """);
        runs.edge("a LINE of every KIND", """
            member 0 0 ; member 0 0 ; fly 0 0 90 0 0 ; spend 0 0 20 1 ; gift 0 0 30 1 ; back 1 0
            stands 0 0 0 0 = 60 ; stands 1 0 0 0 = 30
            withdraw 3 = 1 ; stands 0 0 0 0 = 40 ; withdraw 2 = 1 ; stands 0 0 0 0 = 70 ; stands 1 0 0 0 = 0
            withdraw 1 = 1 ; stands 0 0 0 0 = 90 ; withdraw 0 = 1 ; stands 0 0 0 0 = 0 ; count 1 = 4 ; count 2 = 4
            """);
    }

    private void line() {
        runs.promise(14);
        String told = """
            member 0 0 ; member 0 0 ; days 9
            fly 1 2 300 21 77 ; spend 1 3 200 2 ; gift 1 4 50 0 ; days 1 ; back 1 6 ; days 1 ; withdraw 2
            """;
        runs.edge("Of a FLY", told + "line 0 0 = 0 ; line 0 1 = 1 ; line 0 2 = 2 ; line 0 3 = 9 ; line 0 4 = NONE ; line 0 5 = 300 ; line 0 6 = 21");
        runs.edge("Of a SPEND", told + "line 1 0 = 1 ; line 1 1 = 1 ; line 1 2 = 3 ; line 1 3 = 9 ; line 1 4 = NONE ; line 1 5 = 200 ; line 1 6 = 2");
        runs.edge("Of a GIFT", told + "line 2 0 = 2 ; line 2 1 = 1 ; line 2 2 = 4 ; line 2 3 = 9 ; line 2 4 = 11 ; line 2 5 = 50 ; line 2 6 = 0");
        runs.edge("Of a BACK: the MEMBER of its SPEND, the SPEND", told
            + "line 3 0 = 3 ; line 3 1 = 1 ; line 3 2 = 6 ; line 3 3 = 10 ; line 3 4 = NONE ; line 3 5 = 200 ; line 3 6 = 1");
        runs.edge("what 0 .. 6", told + "line 0 -1 = BAD ; line 0 7 = BAD ; line 0 MIN = BAD ; line 0 MAX = BAD");
        runs.edge("BAD: no such LINE", told + "line -1 0 = BAD ; line 4 0 = BAD ; line MIN 0 = BAD ; line MAX 6 = BAD ; line -1 7 = BAD");
    }
}
