/** Promises 34 to 39: AN IMAGE, SHEETS, counts. */
final class EdgesOfImages {
    private final Runs runs;

    EdgesOfImages(Runs runs) {
        this.runs = runs;
    }

    void all() {
        keep();
        again();
        imageKeeps();
        sheet();
        mark();
        copy();
        count();
    }

    private void keep() {
        runs.promise(34);
        runs.edge("AN IMAGE is kept: TODAY", "keep = 0 ; days 9 ; keep = 9 ; days 1 ; keep = 10 ; again = 10");
        runs.edge("on the last DAY", "12 x days 100 ; keep = 1200 ; again = 1200 ; days 1 = BAD");
        runs.edge("it changes nothing else", "member 0 5 ; fly 0 0 9 0 0 ; tell 4 ; feed 1 2 3 ; sheet 0 2 ; keep = 0 ; count 0 = 1 ; count 1 = 1 ; count 8 = 1 ; count 9 = 12 ; mark 0 1 0 = 0 ; stands 0 0 0 0 = 9");
        runs.edge("a later one takes the place of the one ahead", "keep ; member 0 0 ; keep ; member 0 0 ; again ; count 0 = 1 ; again ; count 0 = 1");
    }

    private void again() {
        runs.promise(35);
        runs.edge("NO: there is none", "again = NO ; days 5 ; member 0 0 ; again = NO ; count 0 = 1 ; count 10 = 5 ; keep = 5 ; again = 5");
        runs.edge("All is as THE IMAGE: TODAY", "days 3 ; keep ; days 9 ; again = 3 ; count 10 = 3 ; days 100 = 103 ; again = 3");
        runs.edge("again and again", "member 0 1 ; keep ; marks 0 2 = 1 ; again ; marks 0 3 = 1 ; again ; marks 0 4 = 1 ; again ; again ; marks 0 5 = 1");
        runs.edge("an IMAGE of nobody", "keep ; 10 x member 0 0 ; member 0 0 = FULL ; again = 0 ; count 0 = 0 ; member 0 0 = 0");
        runs.edge("what is changed behind again() does not change THE IMAGE", "member 0 1 ; fly 0 0 5 0 0 ; keep ; again ; marks 0 9 ; withdraw 0 ; fly 0 0 7 0 0 ; rule 1 5 ; rate 1 0 5 ; again ; marks 0 0 = 1 ; count 1 = 1 ; count 2 = 0 ; rule 1 1 = 90 ; rate 1 0 0 = 10");
    }

    private void imageKeeps() {
        runs.edge("AN IMAGE keeps MEMBERS, MARKS, POOLS", "member 3 5 ; pool 0 2 ; keep ; member 0 0 ; pool 0 NONE ; marks 0 0 ; again ; count 0 = 1 ; is 0 3 = 1 ; pool 0 0 = 2 ; marks 0 0 = 5");
        runs.edge("its LINES", """
            member 0 0 ; member 0 0 ; days 4 ; fly 0 2 90 21 7 ; spend 0 3 40 2 ; withdraw 1 ; keep ; fly 0 1 1 0 0 ; withdraw 0 ; again
            count 1 = 2 ; count 2 = 1 ; line 0 4 = NONE ; line 1 4 = 4 ; line 0 2 = 2 ; line 0 3 = 4 ; line 0 5 = 90 ; line 0 6 = 21 ; stands 0 4 4 0 = 90
            spend 0 1 50 0 ; spend 0 2 60 0 ; brought 2 4 4 = 0 ; brought 3 4 4 = 60
            """);
        runs.edge("in the order in which they were gone through", """
            member 0 0 ; days 4 ; fly 0 2 90 0 0 ; fly 0 3 10 0 0 ; keep ; fly 0 1 1 0 0 ; again ; stands 0 4 4 0 = 100 ; stands 0 2 4 0 = 90 ; spend 0 2 91 0 ; brought 2 4 4 = 0
            """);
        runs.edge("COINS of its LINES", "member 0 0 ; tape 'earn c lapse 9 price 1 tier 0' ; terms 0 ; fly 0 0 1 0 77 ; keep ; again ; fly 0 0 1 0 5 ; again ; brought 0 0 0 = 77");
        runs.edge("its TERMS", """
            member 0 0 ; tape 'earn 11 lapse 99 price 1 tier 1' ; terms 0 ; fly 0 0 1 0 0 ; keep
            tape 'earn 22 lapse 99 price 1 tier 2' ; terms 0 ; brought 0 0 0 = 22 ; again ; count 3 = 1 ; brought 0 0 0 = 11 ; stands 0 0 0 2 = 1
            tape 'earn 33 lapse 99 price 1 tier 3' ; terms 0 = 4 ; brought 0 0 0 = 33 ; again ; brought 0 0 0 = 11
            """);
        runs.edge("its FLIGHTS and ASKS", """
            member 0 0 ; fly 0 0 90 0 0 ; flight 5 10 1 2 ; ask 0 0 3 ; ask 0 0 2 ; keep ; settle 0 = 2 ; flight 6 1 1 1 ; ask 0 1 1 ; again
            count 4 = 1 ; count 5 = 2 ; count 6 = 2 ; open 0 = 2 ; asked 0 3 = 0 ; asked 0 2 = 3 ; settle 0 = 2 ; asked 1 4 = 10 ; keep ; again ; asked 1 4 = 10 ; open 0 = 0 ; count 6 = 0
            """);
        runs.edge("all that a LINE has", """
            member 0 0 ; member 0 0 ; member 0 0 ; tape 'earn l*2+c lapse 99 price 1 tier 0' ; terms 0 ; days 9 ; fly 2 4 60 13 8 ; days 1 ; spend 2 5 70 3 ; gift 2 6 20 1 ; days 1 ; back 1 7 ; withdraw 2 ; keep ; again ; keep ; again
            line 0 0 = 0 ; line 0 1 = 2 ; line 0 2 = 4 ; line 0 3 = 9 ; line 0 4 = NONE ; line 0 5 = 60 ; line 0 6 = 13 ; brought 0 11 11 = 128
            line 1 0 = 1 ; line 1 1 = 2 ; line 1 2 = 5 ; line 1 3 = 10 ; line 1 4 = NONE ; line 1 5 = 70 ; line 1 6 = 3 ; brought 1 11 11 = 70
            line 2 0 = 2 ; line 2 1 = 2 ; line 2 2 = 6 ; line 2 3 = 10 ; line 2 4 = 11 ; line 2 5 = 20 ; line 2 6 = 1 ; brought 2 11 10 = 20
            line 3 0 = 3 ; line 3 1 = 2 ; line 3 2 = 7 ; line 3 3 = 11 ; line 3 4 = NONE ; line 3 5 = 70 ; line 3 6 = 1 ; brought 3 11 11 = 70
            """);
        runs.edge("all that a FLIGHT and an ASK have", """
            member 0 0 ; member 0 0 ; member 0 0 ; tape 'earn 9999 lapse 99 price l*10+d tier 0' ; terms 0 ; fly 2 0 1 0 0 ; fly 1 0 1 0 0 ; flight 5 30 3 4 ; flight 6 20 2 7 ; flight 7 40 1 8
            ask 2 1 3 ; ask 1 2 0 ; ask 0 0 1 ; settle 2 = 1 ; keep ; again ; keep ; again ; open 0 = 4 ; open 1 = 7 ; open 2 = 7
            asked 0 0 = 2 ; asked 0 1 = 1 ; asked 0 2 = 3 ; asked 0 4 = NONE ; asked 1 0 = 1 ; asked 1 1 = 2 ; asked 1 2 = 0 ; asked 1 4 = 407 ; asked 2 0 = 0 ; asked 2 1 = 0 ; asked 2 2 = 1 ; asked 2 4 = NONE
            settle 1 = 1 ; asked 0 4 = 206 ; line 2 6 = 1 ; line 3 6 = 2 ; open 1 = 6 ; days 4 ; settle 0 = 0 ; fly 0 4 1 0 0 ; settle 0 = 1 ; line 5 6 = 3 ; line 5 5 = 301 ; days 1 ; settle 0 = NO
            """);
        runs.edge("its OFFERS", "offer 5 5 1 ; offer 4 9 2 ; way 5 = 4 ; keep ; clear ; offer 1 5 1 ; way 5 = 1 ; again ; count 7 = 2 ; way 5 = 4 ; way 23 = 13 ; way 24 = NO");
        runs.edge("COINS, POINTS and TIMES of its OFFERS", "offer 5 7 2 ; keep ; clear ; offer 6 9 3 ; way 27 = 18 ; again ; way 14 = 10 ; way 7 = 5 ; way 8 = 10 ; way 15 = NO");
        runs.edge("RULES and RATES, each", """
            rule 0 1 ; rule 1 2 ; rule 2 3 ; rate 1 0 11 ; rate 1 1 12 ; rate 2 0 21 ; rate 2 1 22 ; rate 3 0 31 ; rate 3 1 32 ; keep
            rule 0 9 ; rule 1 9 ; rule 2 9 ; rate 1 0 9 ; rate 1 1 9 ; rate 2 0 9 ; rate 2 1 9 ; rate 3 0 9 ; rate 3 1 9 ; again
            rule 0 9 = 1 ; rule 1 9 = 2 ; rule 2 9 = 3 ; rate 1 0 9 = 11 ; rate 1 1 9 = 12 ; rate 2 0 9 = 21 ; rate 2 1 9 = 22 ; rate 3 0 9 = 31 ; rate 3 1 9 = 32
            """);
        runs.edge("all but SHEETS", "sheet 0 2 ; mark 0 0 7 ; keep ; mark 0 0 8 ; sheet 1 3 ; again ; mark 0 0 0 = 8 ; mark 1 2 0 = 0 ; mark 1 3 0 = INDEX ; sheet 0 1 ; again ; mark 0 1 0 = INDEX");
        runs.edge("all but numbers that wait", "tell 1 ; keep ; tell 2 ; again ; count 8 = 2 ; check 0 = 1 ; again ; count 8 = 0");
        runs.edge("all but THE TAPE", "feed 0 0 0 ; keep ; feed 0 0 0 ; again ; count 9 = 24 ; trim 5 ; again ; count 9 = 5 ; terms 0 = -100 ; again ; count 9 = 0");
        runs.edge("an IMAGE that is full of all", """
            10 x member 0 1 ; 100 x fly 9 0 9 1 0
            8 x flight 5 1 0 9 ; 30 x ask 9 7 0 ; 8 x offer 1 1 1 ; keep ; settle 7 = 0 ; clear = 8 ; withdraw 99 = 1 ; again
            count 0 = 10 ; count 1 = 100 ; count 2 = 0 ; count 4 = 8 ; count 5 = 30 ; count 6 = 30 ; count 7 = 8 ; stands 9 0 0 0 = 900 ; line 99 5 = 9 ; asked 29 1 = 7 ; open 7 = 9 ; way 8 = 8
            """);
    }

    private void sheet() {
        runs.promise(36);
        runs.edge("SHEETS 0, 1", "sheet -1 1 = BAD ; sheet 0 1 = 1 ; sheet 1 1 = 1 ; sheet 2 1 = BAD ; sheet MIN 1 = BAD ; sheet MAX 1 = BAD");
        runs.edge("BAD: n above 16", "sheet 0 17 = BAD ; sheet 0 MAX = BAD ; mark 0 0 0 = NOTHING ; sheet 0 16 = 16 ; mark 0 15 0 = 0 ; mark 0 16 0 = INDEX ; sheet 0 17 = BAD ; mark 0 15 0 = 0");
        runs.edge("SIZE: a number of places is below 0", "sheet 0 -1 = SIZE ; sheet 0 MIN = SIZE ; mark 0 0 0 = NOTHING ; sheet 0 0 = 0 ; mark 0 0 0 = INDEX ; sheet 0 1 = 1 ; sheet 0 -1 = SIZE ; mark 0 0 0 = 0");
        runs.edge("of several the one that stands first: BAD, then SIZE", "sheet 2 -1 = BAD ; sheet -1 -1 = BAD ; sheet -1 17 = BAD ; sheet 1 -1 = SIZE");
        runs.edge("A SHEET has n places, all 0", "sheet 0 16 = 16 ; mark 0 0 5 ; mark 0 7 5 ; mark 0 15 5 ; sheet 0 8 = 8 ; mark 0 0 0 = 0 ; mark 0 7 0 = 0 ; mark 0 8 0 = INDEX ; sheet 0 16 = 16 ; mark 0 15 0 = 0");
        runs.edge("all 0, of the second one, and the first stays as it is", """
            sheet 0 16 ; sheet 1 16 ; mark 0 0 1 ; mark 0 8 2 ; mark 0 9 3 ; mark 0 10 4 ; mark 0 15 5 ; mark 1 0 6 ; mark 1 7 7 ; mark 1 8 8 ; mark 1 15 9 ; sheet 1 16 = 16
            mark 0 0 0 = 1 ; mark 0 8 0 = 2 ; mark 0 9 0 = 3 ; mark 0 10 0 = 4 ; mark 0 15 0 = 5 ; mark 1 0 0 = 0 ; mark 1 7 0 = 0 ; mark 1 8 0 = 0 ; mark 1 15 0 = 0
            """);
        runs.edge("the other one stays as it is", "sheet 0 3 ; mark 0 2 9 ; sheet 1 16 ; mark 0 2 0 = 9 ; sheet 1 0 ; mark 0 2 1 = 0 ; mark 1 0 0 = INDEX");
        runs.edge("0 places are not MISSING", "sheet 0 0 = 0 ; lay 0 = 0 ; lay 1 = NOTHING ; mark 0 0 0 = INDEX ; copy 0 0 0 0 0 = 0 ; copy 0 0 0 0 1 = INDEX");
    }

    private void mark() {
        runs.promise(37);
        runs.edge("(as a short): what it was", """
            sheet 0 1 ; mark 0 0 32767 = 0 ; mark 0 0 32768 = 32767 ; mark 0 0 -32768 = -32768 ; mark 0 0 -32769 = -32768 ; mark 0 0 65535 = 32767
            mark 0 0 65536 = -1 ; mark 0 0 65537 = 0 ; mark 0 0 MAX = 1 ; mark 0 0 MIN = -1 ; mark 0 0 -1 = 0 ; mark 0 0 0 = -1
            """);
        runs.edge("INDEX: there is no such place", "sheet 1 3 ; mark 1 -1 5 = INDEX ; mark 1 0 5 = 0 ; mark 1 2 5 = 0 ; mark 1 3 5 = INDEX ; mark 1 MIN 5 = INDEX ; mark 1 MAX 5 = INDEX ; mark 1 16 5 = INDEX ; mark 1 1 5 = 0");
        runs.edge("the first place of the one is none of the other", "sheet 0 16 ; sheet 1 16 ; mark 0 16 5 = INDEX ; mark 1 -1 5 = INDEX ; mark 0 15 6 = 0 ; mark 1 0 7 = 0 ; mark 0 15 0 = 6 ; mark 1 0 0 = 7");
        runs.edge("of several the one that stands first: BAD, then NOTHING, then INDEX", "mark 2 -1 0 = BAD ; mark -1 99 0 = BAD ; mark 0 -1 0 = NOTHING ; mark 0 99 0 = NOTHING ; sheet 0 1 ; mark 0 -1 0 = INDEX ; mark 1 -1 0 = NOTHING");
    }

    private void copy() {
        runs.promise(38);
        String five = "sheet 0 5 ; mark 0 0 1 ; mark 0 1 2 ; mark 0 2 3 ; mark 0 3 4 ; mark 0 4 5 ; sheet 1 3\n";
        runs.edge("So many places of a SHEET come to another one", five + "copy 0 1 1 0 3 = 3 ; mark 1 0 0 = 2 ; mark 1 1 0 = 3 ; mark 1 2 0 = 4 ; mark 0 0 0 = 1 ; mark 0 1 0 = 2 ; mark 0 4 0 = 5");
        runs.edge("the same, as they were: up", five + "copy 0 0 0 1 4 = 4 ; mark 0 0 0 = 1 ; mark 0 1 0 = 1 ; mark 0 2 0 = 2 ; mark 0 3 0 = 3 ; mark 0 4 0 = 4");
        runs.edge("the same, as they were: down", five + "copy 0 1 0 0 4 = 4 ; mark 0 0 0 = 2 ; mark 0 1 0 = 3 ; mark 0 2 0 = 4 ; mark 0 3 0 = 5 ; mark 0 4 0 = 5");
        runs.edge("all onto itself", five + "copy 0 0 0 0 5 = 5 ; mark 0 0 0 = 1 ; mark 0 4 0 = 5 ; copy 0 0 0 0 6 = INDEX");
        runs.edge("INDEX: beyond the SHEET that it comes from", five + "sheet 1 16 ; copy 0 0 1 0 5 = 5 ; copy 0 0 1 0 6 = INDEX ; copy 0 1 1 0 5 = INDEX ; copy 0 4 1 0 1 = 1 ; copy 0 5 1 0 1 = INDEX ; copy 0 -1 1 0 1 = INDEX");
        runs.edge("INDEX: beyond the SHEET that it comes to", five + "copy 0 0 1 0 3 = 3 ; copy 0 0 1 0 4 = INDEX ; copy 0 0 1 1 3 = INDEX ; copy 0 0 1 2 1 = 1 ; copy 0 0 1 3 1 = INDEX ; copy 0 0 1 -1 1 = INDEX");
        runs.edge("no places", five + "copy 0 0 1 0 0 = 0 ; copy 0 5 1 3 0 = 0 ; copy 0 6 1 0 0 = INDEX ; copy 0 0 1 4 0 = INDEX ; copy 0 -1 1 0 0 = INDEX ; copy 0 0 1 -1 0 = INDEX ; mark 1 0 0 = 0");
        runs.edge("fewer than none", five + "copy 0 0 1 0 -1 = INDEX ; copy 0 3 1 3 -1 = INDEX ; copy 0 0 1 0 MIN = INDEX");
        runs.edge("no sum wraps around", five + "copy 0 1 1 1 MAX = INDEX ; copy 0 MAX 1 0 1 = INDEX ; copy 0 0 1 MAX 1 = INDEX ; copy 0 MAX 1 MAX MAX = INDEX ; copy 0 MIN 1 0 MIN = INDEX ; copy 0 MIN 1 MIN 1 = INDEX ; copy 0 1 1 1 MIN = INDEX");
        runs.edge("of several the one that stands first: BAD, then NOTHING, then INDEX", """
            copy 2 0 0 0 0 = BAD ; copy 0 0 2 0 0 = BAD ; copy -1 0 0 0 0 = BAD ; copy 0 0 -1 0 0 = BAD ; copy 2 -1 0 0 0 = BAD ; copy 0 -1 1 0 0 = NOTHING ; sheet 0 1
            copy 0 -1 1 0 0 = NOTHING ; copy 1 0 0 9 0 = NOTHING ; copy 0 0 1 0 1 = NOTHING ; copy 0 -1 2 0 0 = BAD ; copy 0 -1 0 0 1 = INDEX ; sheet 1 1 ; copy 0 0 1 0 1 = 1
            """);
        runs.edge("16 places, there and back", "sheet 0 16 ; sheet 1 16 ; mark 0 0 -7 ; mark 0 15 7 ; copy 0 0 1 0 16 = 16 ; copy 0 0 1 0 17 = INDEX ; mark 0 15 0 ; copy 1 0 0 0 16 = 16 ; mark 0 15 0 = 7 ; mark 0 0 0 = -7 ; mark 1 0 0 = -7");
    }

    private void count() {
        runs.promise(39);
        runs.edge("what 0 .. 10", "count -1 = BAD ; count 0 = 0 ; count 10 = 0 ; count 11 = BAD ; count MIN = BAD ; count MAX = BAD");
        runs.edge("2 of these WITHDRAWN", "member 0 0 ; fly 0 0 1 0 0 ; fly 0 0 1 0 0 ; count 2 = 0 ; withdraw 1 ; count 2 = 1 ; count 1 = 2 ; withdraw 1 = NO ; count 2 = 1 ; withdraw 0 ; count 2 = 2");
        runs.edge("6 of these that wait", "member 0 0 ; fly 0 0 1 0 0 ; flight 5 1 0 9 ; ask 0 0 0 ; ask 0 0 0 ; count 5 = 2 ; count 6 = 2 ; settle 0 = 1 ; count 5 = 2 ; count 6 = 1");
        runs.edge("each by itself", """
            10 x member 0 0 ; 9 x fly 0 0 1 0 0 ; 8 x withdraw 0 ; tape 'earn 1 lapse 1 price 1 tier 1' ; terms 0 ; 7 x flight 5 1 0 0 ; 6 x ask 0 0 0 ; 5 x offer 1 1 1 ; 4 x tell 1 ; feed 0 0 0 ; days 3
            count 0 = 10 ; count 1 = 9 ; count 2 = 1 ; count 3 = 1 ; count 4 = 7 ; count 5 = 6 ; count 6 = 6 ; count 7 = 5 ; count 8 = 4 ; count 9 = 12 ; count 10 = 3
            """);
    }
}
