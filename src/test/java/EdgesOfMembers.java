/** Promises 1 to 8: a new object, MEMBERS, POOLS, MARKS, DAYS, RULES. */
final class EdgesOfMembers {
    private final Runs runs;

    EdgesOfMembers(Runs runs) {
        this.runs = runs;
    }

    void all() {
        newObject();
        member();
        is();
        pool();
        marks();
        lay();
        days();
        rule();
    }

    private void newObject() {
        runs.promise(1);
        runs.edge("Nobody, no TERMS", """
            count 0 = 0 ; count 1 = 0 ; count 2 = 0 ; count 3 = 0 ; count 4 = 0 ; count 5 = 0
            count 6 = 0 ; count 7 = 0 ; count 8 = 0 ; count 9 = 0 ; count 10 = 0
            """);
        runs.edge("Nobody: no call finds a MEMBER", """
            is 0 0 = BAD ; pool 0 0 = BAD ; marks 0 0 = BAD ; fly 0 0 1 0 0 = BAD ; spend 0 0 1 0 = BAD
            gift 0 0 1 1 = BAD ; stands 0 0 0 0 = BAD ; ask 0 0 0 = BAD ; ring 0 = NONE
            """);
        runs.edge("no LINE, no FLIGHT, no ASK, no OFFER", """
            back 0 0 = BAD ; withdraw 0 = BAD ; line 0 0 = BAD ; brought 0 0 0 = BAD ; settle 0 = BAD
            open 0 = BAD ; asked 0 0 = BAD ; taken 0 0 = BAD ; clear = 0 ; way 0 = 0 ; way 1 = NO
            """);
        runs.edge("no IMAGE, SHEETS are MISSING at first", """
            again = NO ; lay 0 = NOTHING ; lay 1 = NOTHING ; mark 0 0 0 = NOTHING ; mark 1 0 0 = NOTHING
            copy 0 0 0 0 0 = NOTHING ; copy 1 0 1 0 0 = NOTHING
            """);
        runs.edge("no numbers wait, nothing is on THE TAPE", "check 0 = 0 ; trim 1 = BAD ; trim 0 = 0 ; terms 0 = -100");
        runs.edge("at most 512 calls: the last answers, too", "member 0 3 = 0 ; 509 x count 0 ; marks 0 4 = 3 ; marks 0 5 = 4");
        runs.edge("TODAY is 0 at first", "count 10 = 0 ; keep = 0 ; days 1 = 1");
        runs.edge("what no PARTNER has made it owes not", "owes 1 0 0 = 0 ; owes 2 0 0 = 0 ; owes 3 1200 1200 = 0");
    }

    private void member() {
        runs.promise(2);
        runs.edge("MEMBERS, 10 at most, numbered from 0", """
            10 x member 0 0 = 0..
            count 0 = 10 ; member 0 0 = FULL ; count 0 = 10 ; is 9 0 = 1 ; is 10 0 = BAD
            """);
        runs.edge("the tenth fits, the eleventh does not", "9 x member 0 0 ; count 0 = 9 ; member 3 4095 = 9 ; member 3 4095 = FULL");
        runs.edge("of several the one that stands first: BAD, then FULL", """
            10 x member 0 0
            member -1 0 = BAD ; member 4 0 = BAD ; member 0 -1 = BAD ; member 0 4096 = BAD ; member 4 4096 = BAD
            """);
        runs.edge("KINDS 0 .. 3", """
            member -1 0 = BAD ; member 0 0 = 0 ; member 1 0 = 1 ; member 2 0 = 2 ; member 3 0 = 3 ; member 4 0 = BAD
            is 0 1 = 0 ; is 1 1 = 1 ; is 2 2 = 1 ; is 3 3 = 1
            """);
        runs.edge("MARKS (bits 0 .. 11)", """
            member 0 -1 = BAD ; member 0 0 = 0 ; member 0 1 = 1 ; member 0 2048 = 2 ; member 0 4095 = 3 ; member 0 4096 = BAD
            marks 0 9 = 0 ; marks 1 9 = 1 ; marks 2 9 = 2048 ; marks 3 9 = 4095 ; count 0 = 4
            """);
        runs.edge("a MEMBER that came is in no POOL", "member 0 0 ; pool 0 NONE = NONE");
    }

    private void is() {
        runs.promise(3);
        runs.edge("KINDS 0 MEMBER: all are MEMBERS", """
            member 0 0 ; member 1 0 ; member 2 0 ; member 3 0
            is 0 0 = 1 ; is 1 0 = 1 ; is 2 0 = 1 ; is 3 0 = 1
            """);
        runs.edge("1 CHILD", """
            member 0 0 ; member 1 0 ; member 2 0 ; member 3 0
            is 0 1 = 0 ; is 1 1 = 1 ; is 2 1 = 0 ; is 3 1 = 0
            """);
        runs.edge("2 BEARER, 3 STAFF, under BEARER", """
            member 0 0 ; member 1 0 ; member 2 0 ; member 3 0
            is 0 2 = 0 ; is 1 2 = 0 ; is 2 2 = 1 ; is 3 2 = 1
            is 0 3 = 0 ; is 1 3 = 0 ; is 2 3 = 0 ; is 3 3 = 1
            """);
        runs.edge("BAD", """
            is 0 0 = BAD ; member 3 0 ; is -1 3 = BAD ; is 0 3 = 1 ; is 1 3 = BAD ; is 0 -1 = BAD ; is 0 4 = BAD
            is MIN 0 = BAD ; is MAX 0 = BAD ; is 0 MIN = BAD ; is 0 MAX = BAD
            """);
    }

    private void pool() {
        runs.promise(4);
        runs.edge("POOLS 0 .. 2", """
            member 0 0 ; pool 0 -1 = BAD ; pool 0 0 = NONE ; pool 0 1 = 0 ; pool 0 2 = 1 ; pool 0 3 = BAD ; pool 0 0 = 2
            """);
        runs.edge("NONE: in none, and the one ahead (NONE)", """
            member 0 0 ; pool 0 NONE = NONE ; pool 0 2 = NONE ; pool 0 NONE = 2 ; pool 0 NONE = NONE
            pool 0 -1000000004 = BAD ; pool 0 -1000000006 = BAD ; pool 0 1 = NONE
            """);
        runs.edge("BAD: no such MEMBER", "pool 0 0 = BAD ; member 0 0 ; pool -1 0 = BAD ; pool 1 0 = BAD ; pool 0 0 = NONE");
        runs.edge("a MEMBER may be in one: who goes to another is in the first no more", """
            member 0 0 ; member 0 0 ; member 0 0 ; fly 1 0 100 0 0 ; fly 2 0 10 0 0
            pool 0 1 ; pool 1 1 ; pool 2 2 ; spend 0 0 100 0 = 2 ; brought 2 0 0 = 100
            pool 0 2 = 1 ; brought 2 0 0 = 0 ; spend 0 0 10 0 = 3 ; brought 3 0 0 = 10
            """);
        runs.edge("as it is now, for any day", """
            member 0 0 ; member 0 0 ; fly 1 0 100 0 0 ; spend 0 0 100 0 ; days 5
            brought 1 0 0 = 0 ; pool 0 0 ; pool 1 0 ; brought 1 0 0 = 100 ; stands 1 0 0 0 = 0
            pool 1 NONE = 0 ; brought 1 0 0 = 0 ; stands 1 0 0 0 = 100
            """);
        runs.edge("who are both in no POOL share nothing", """
            member 0 0 ; member 0 0 ; fly 1 0 100 0 0 ; spend 0 0 1 0 ; brought 1 0 0 = 0
            """);
    }

    private void marks() {
        runs.promise(5);
        runs.edge("MARKS of a MEMBER become v (0 .. 4095): what they were", """
            member 0 7 ; marks 0 -1 = BAD ; marks 0 0 = 7 ; marks 0 1 = 0 ; marks 0 4094 = 1 ; marks 0 4095 = 4094
            marks 0 4096 = BAD ; marks 0 0 = 4095
            """);
        runs.edge("BAD: no such MEMBER", "marks 0 0 = BAD ; member 0 1 ; marks -1 0 = BAD ; marks 1 0 = BAD ; marks 0 0 = 1");
        runs.edge("of one MEMBER alone", "member 0 1 ; member 0 2 ; member 0 3 ; marks 1 9 = 2 ; marks 0 0 = 1 ; marks 2 0 = 3 ; marks 1 0 = 9");
    }

    private void lay() {
        runs.promise(6);
        runs.edge("BAD; NOTHING", "lay -1 = BAD ; lay 2 = BAD ; lay 0 = NOTHING ; lay 1 = NOTHING ; sheet 1 1 ; lay 1 = 0 ; lay 0 = NOTHING");
        runs.edge("as many as there are of both: fewer places", """
            member 0 1 ; member 0 2 ; member 0 3 ; sheet 0 2 ; mark 0 0 11 ; mark 0 1 12
            lay 0 = 2 ; marks 0 0 = 11 ; marks 1 0 = 12 ; marks 2 0 = 3
            """);
        runs.edge("as many as there are of both: fewer MEMBERS", """
            member 0 1 ; member 0 2 ; sheet 0 3 ; mark 0 0 11 ; mark 0 1 12 ; mark 0 2 13
            lay 0 = 2 ; marks 0 0 = 11 ; marks 1 0 = 12 ; member 0 5 = 2 ; marks 2 0 = 5
            """);
        runs.edge("as many of the one as of the other", """
            10 x member 0 1
            sheet 1 10 ; mark 1 0 2 ; mark 1 9 3 ; lay 1 = 10 ; marks 0 0 = 2 ; marks 8 0 = 0 ; marks 9 0 = 3
            """);
        runs.edge("16 places, 10 MEMBERS", "10 x member 0 1 ; sheet 1 16 ; lay 1 = 10");
        runs.edge("none of one of them", "sheet 0 0 ; lay 0 = 0 ; sheet 0 16 ; lay 0 = 0 ; member 0 7 ; sheet 0 0 ; lay 0 = 0 ; marks 0 0 = 7");
        runs.edge("not 0 .. 4095 counts as 0", """
            10 x member 0 9
            sheet 0 10 ; mark 0 0 -1 ; mark 0 1 0 ; mark 0 2 1 ; mark 0 3 4094 ; mark 0 4 4095 ; mark 0 5 4096 ; mark 0 6 32767
            mark 0 7 -32768 ; mark 0 8 65535 ; mark 0 9 69631 ; lay 0 = 10
            marks 0 0 = 0 ; marks 1 0 = 0 ; marks 2 0 = 1 ; marks 3 0 = 4094 ; marks 4 0 = 4095 ; marks 5 0 = 0
            marks 6 0 = 0 ; marks 7 0 = 0 ; marks 8 0 = 0 ; marks 9 0 = 4095
            """);
        runs.edge("the SHEET stays as it is", "member 0 9 ; sheet 0 1 ; mark 0 0 4096 ; lay 0 = 1 ; mark 0 0 5 = 4096 ; marks 0 0 = 0");
    }

    private void days() {
        runs.promise(7);
        runs.edge("n (1 .. 100) DAYS go: TODAY", """
            days 0 = BAD ; days -1 = BAD ; days 1 = 1 ; days 2 = 3 ; days 99 = 102 ; days 100 = 202 ; days 101 = BAD
            days MIN = BAD ; days MAX = BAD ; count 10 = 202
            """);
        runs.edge("BAD: also if it would be above 1200", """
            11 x days 100
            days 99 = 1199 ; days 2 = BAD ; days 100 = BAD ; count 10 = 1199 ; days 1 = 1200 ; days 1 = BAD ; count 10 = 1200
            """);
        runs.edge("just to 1200", "12 x days 100 ; count 10 = 1200 ; days 1 = BAD ; days 100 = BAD ; days 101 = BAD ; days 0 = BAD");
    }

    private void rule() {
        runs.promise(8);
        runs.edge("0 NOTICE (0 .. 360; 30 at first)", "rule 0 -1 = BAD ; rule 0 361 = BAD ; rule 0 0 = 30 ; rule 0 1 = 0 ; rule 0 360 = 1 ; rule 0 361 = BAD ; rule 0 30 = 360");
        runs.edge("1 GRACE (1 .. 999; 90)", "rule 1 0 = BAD ; rule 1 1000 = BAD ; rule 1 1 = 90 ; rule 1 2 = 1 ; rule 1 999 = 2 ; rule 1 0 = BAD ; rule 1 90 = 999");
        runs.edge("2 WARN (0 .. 999; 60)", "rule 2 -1 = BAD ; rule 2 1000 = BAD ; rule 2 0 = 60 ; rule 2 1 = 0 ; rule 2 999 = 1 ; rule 2 1000 = BAD ; rule 2 60 = 999");
        runs.edge("which 0 .. 2", "rule -1 50 = BAD ; rule 3 50 = BAD ; rule MIN 50 = BAD ; rule MAX 50 = BAD ; rule 0 50 = 30 ; rule 2 50 = 60");
        runs.edge("each rule by itself", "rule 0 7 = 30 ; rule 1 8 = 90 ; rule 2 9 = 60 ; rule 0 1 = 7 ; rule 1 1 = 8 ; rule 2 1 = 9");
    }
}
