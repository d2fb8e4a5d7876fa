/** Promises 22 to 26: FLIGHTS, ASKS, their SETTLING. */
final class EdgesOfSeats {
    private final Runs runs;

    EdgesOfSeats(Runs runs) {
        this.runs = runs;
    }

    void all() {
        flight();
        ask();
        settle();
        ranks();
        pays();
        prices();
        lines();
        asked();
        open();
    }

    private static String terms(String earn, String price, String tier) {
        return "tape 'earn " + earn + " lapse 9999 price " + price + " tier " + tier + "' ; terms 0\n";
    }

    private void flight() {
        runs.promise(22);
        runs.edge("FLIGHTS, 8 at most, numbered from 0", """
            7 x flight 1 1 0 0 = 0..
            count 4 = 7 ; flight 1 1 0 0 = 7 ; count 4 = 8 ; flight 1 1 0 0 = FULL ; count 4 = 8 ; open 7 = 0 ; open 8 = BAD
            """);
        runs.edge("of several the one that stands first: BAD, then FULL", """
            8 x flight 1 1 0 0
            flight 0 1 0 0 = BAD ; flight 1201 1 0 0 = BAD ; flight 1 0 0 0 = BAD ; flight 1 1 4 0 = BAD ; flight 1 1 0 10 = BAD
            """);
        runs.edge("a FLIGHT whose DAY is over still is one of the 8", "8 x flight 1 1 0 0 ; days 5 ; flight 9 1 0 0 = FULL");
        runs.edge("day (TODAY and 1 .. 1200)", """
            flight 0 1 0 0 = BAD ; flight -1 1 0 0 = BAD ; flight 1 1 0 0 = 0 ; flight 1200 1 0 0 = 1 ; flight 1201 1 0 0 = BAD
            days 10 ; flight 9 1 0 0 = BAD ; flight 10 1 0 0 = BAD ; flight 11 1 0 0 = 2 ; flight 12 1 0 0 = 3
            """);
        runs.edge("on the last DAY but one", "11 x days 100 ; days 99 ; flight 1199 1 0 0 = BAD ; flight 1200 1 0 0 = 0 ; flight 1201 1 0 0 = BAD");
        runs.edge("on the last DAY there is none any more", "12 x days 100 ; flight 1200 1 0 0 = BAD ; flight 1201 1 0 0 = BAD");
        runs.edge("leg 1 .. 9999", "flight 1 0 0 0 = BAD ; flight 1 -1 0 0 = BAD ; flight 1 1 0 0 = 0 ; flight 1 9999 0 0 = 1 ; flight 1 10000 0 0 = BAD");
        runs.edge("partner 0 .. 3", "flight 1 1 -1 0 = BAD ; flight 1 1 0 0 = 0 ; flight 1 1 3 0 = 1 ; flight 1 1 4 0 = BAD");
        runs.edge("SEATS 0 .. 9", "flight 1 1 0 -1 = BAD ; flight 1 1 0 0 = 0 ; flight 1 1 0 1 = 1 ; flight 1 1 0 9 = 2 ; flight 1 1 0 10 = BAD ; open 0 = 0 ; open 1 = 1 ; open 2 = 9");
    }

    private void ask() {
        runs.promise(23);
        runs.edge("An ASK (30 at most, numbered from 0)", """
            member 0 0 ; flight 2 1 0 0 ; 29 x ask 0 0 0 = 0..
            count 5 = 29 ; ask 0 0 0 = 29 ; count 5 = 30 ; ask 0 0 0 = FULL ; count 5 = 30 ; count 6 = 30 ; asked 29 0 = 0 ; asked 30 0 = BAD
            """);
        runs.edge("of several the one that stands first: BAD, then NO, then FULL", """
            member 0 0 ; flight 1 1 0 0 ; flight 9 1 0 0 ; 30 x ask 0 0 0
            ask 0 1 0 = FULL ; days 1 ; ask 0 0 0 = NO ; ask 0 0 4 = BAD ; ask 1 0 0 = BAD ; ask 0 1 0 = FULL ; ask 0 2 0 = BAD
            """);
        runs.edge("one that has a seat still is one of the 30", "member 0 0 ; fly 0 0 50 0 0 ; flight 2 1 0 9 ; 30 x ask 0 0 0 ; settle 0 = 9 ; ask 0 0 0 = FULL ; count 6 = 21");
        runs.edge("NO: the FLIGHT's DAY is not behind TODAY", """
            member 0 0 ; flight 5 1 0 0 ; days 4 ; ask 0 0 0 = 0 ; days 1 ; ask 0 0 0 = NO ; days 1 ; ask 0 0 0 = NO ; count 5 = 1
            """);
        runs.edge("a MEMBER for a FLIGHT, a CLASS", """
            ask 0 0 0 = BAD ; member 0 0 ; ask 0 0 0 = BAD ; flight 5 1 0 0 ; ask -1 0 0 = BAD ; ask 1 0 0 = BAD ; ask 0 -1 0 = BAD ; ask 0 1 0 = BAD
            ask 0 0 -1 = BAD ; ask 0 0 4 = BAD ; ask 0 0 0 = 0 ; ask 0 0 3 = 1
            """);
        runs.edge("a FLIGHT without a seat may be asked for", "member 0 0 ; flight 5 1 0 0 ; ask 0 0 0 = 0 ; settle 0 = 0 ; asked 0 3 = 0");
    }

    private void settle() {
        runs.promise(24);
        runs.edge("BAD: no such FLIGHT", "settle 0 = BAD ; flight 5 1 0 0 ; settle -1 = BAD ; settle 1 = BAD ; settle 0 = 0");
        runs.edge("NO: its DAY is not behind TODAY", """
            member 0 0 ; fly 0 0 9 0 0 ; flight 5 1 0 9 ; days 4 ; ask 0 0 0 ; settle 0 = 1 ; ask 0 0 0 ; days 1 ; settle 0 = NO ; days 1 ; settle 0 = NO ; asked 1 3 = 0
            """);
        runs.edge("without ASKS", "flight 5 1 0 9 ; settle 0 = 0 ; open 0 = 9");
        runs.edge("how many seats were given by it", """
            member 0 0 ; fly 0 0 100 0 0 ; flight 5 10 0 3 ; ask 0 0 0 ; settle 0 = 1 ; settle 0 = 0 ; ask 0 0 0 ; ask 0 0 0 ; settle 0 = 2 ; open 0 = 0 ; count 6 = 0
            """);
        runs.edge("while SEATS are OPEN", """
            member 0 0 ; fly 0 0 100 0 0 ; flight 5 10 0 2 ; 4 x ask 0 0 0 ; settle 0 = 2 ; open 0 = 0
            asked 0 3 = 1 ; asked 1 3 = 1 ; asked 2 3 = 0 ; asked 3 3 = 0 ; stands 0 0 0 0 = 80 ; count 1 = 3 ; settle 0 = 0 ; count 1 = 3
            """);
        runs.edge("9 SEATS for 9, and for 10", """
            member 0 0 ; fly 0 0 100 0 0 ; flight 5 1 0 9 ; flight 5 1 0 9 ; 9 x ask 0 0 0
            settle 0 = 9 ; open 0 = 0 ; 10 x ask 0 1 0 ; settle 1 = 9 ; open 1 = 0 ; asked 18 3 = 0 ; stands 0 0 0 0 = 82
            """);
        runs.edge("0 SEATS", "member 0 0 ; fly 0 0 100 0 0 ; flight 5 1 0 0 ; ask 0 0 0 ; settle 0 = 0 ; asked 0 4 = NONE ; count 1 = 1");
        runs.edge("ASKS that wait for it: not those for another one, nor those that have a seat", """
            member 0 0 ; fly 0 0 100 0 0 ; flight 5 1 0 9 ; flight 5 2 0 9 ; ask 0 1 0 ; ask 0 0 0 ; settle 0 = 1 ; asked 0 3 = 0 ; asked 1 3 = 1
            settle 0 = 0 ; settle 1 = 1 ; asked 0 4 = 2 ; open 0 = 8 ; open 1 = 8 ; stands 0 0 0 0 = 97
            """);
    }

    private void ranks() {
        String four = "member 0 0 ; member 0 0 ; member 0 0 ; member 0 0\n" + terms("l", "1", "q/100")
            + "fly 0 0 99 0 0 ; fly 1 0 100 0 0 ; fly 2 0 200 0 0 ; fly 3 0 300 0 0\n";
        runs.edge("by TIER, the higher first", four + """
            flight 5 1 0 1 ; ask 0 0 0 ; ask 1 0 0 ; ask 2 0 0 ; ask 3 0 0 ; settle 0 = 1 ; asked 0 3 = 0 ; asked 1 3 = 0 ; asked 2 3 = 0 ; asked 3 3 = 1
            flight 5 1 0 2 ; ask 0 1 0 ; ask 1 1 0 ; ask 2 1 0 ; settle 1 = 2 ; asked 4 3 = 0 ; asked 5 3 = 1 ; asked 6 3 = 1
            flight 5 1 0 1 ; ask 0 2 0 ; ask 1 2 0 ; settle 2 = 1 ; asked 7 3 = 0 ; asked 8 3 = 1
            """);
        runs.edge("of one TIER by number", """
            member 0 0 ; member 0 0 ; fly 0 0 9 0 0 ; fly 1 0 9 0 0 ; flight 5 1 0 1 ; ask 1 0 0 ; ask 0 0 0 ; settle 0 = 1 ; asked 0 3 = 1 ; asked 1 3 = 0
            """);
        runs.edge("of STAFF 1 at least, without TERMS too", """
            member 0 0 ; member 3 0 ; fly 0 0 9 0 0 ; fly 1 0 9 0 0 ; flight 5 1 0 1 ; ask 0 0 0 ; ask 1 0 0 ; settle 0 = 1 ; asked 0 3 = 0 ; asked 1 3 = 1
            """);
        runs.edge("TIER TODAY, AS KNOWN TODAY", """
            member 0 0 ; member 0 0
            """ + terms("l", "1", "q/100") + """
            fly 0 0 150 0 0 ; fly 1 0 300 0 0 ; flight 9 1 0 1 ; flight 9 1 0 1 ; ask 0 0 0 ; ask 1 0 0 ; ask 0 1 0 ; ask 1 1 0 ; settle 0 = 1 ; asked 1 3 = 1
            days 1 ; withdraw 1 ; fly 1 1 50 0 0 ; settle 1 = 1 ; asked 2 3 = 1 ; asked 3 3 = 0
            """);
        runs.edge("TIER by TERMS in force TODAY", """
            member 0 0 ; member 3 0 ; rule 0 0 ; fly 0 0 9 0 0 ; fly 1 0 9 0 0 ; tape 'earn l lapse 99 price 1 tier 3' ; terms 4
            flight 9 1 0 1 ; flight 9 1 0 1 ; ask 0 0 0 ; ask 1 0 0 ; ask 0 1 0 ; ask 1 1 0 ; days 3 ; settle 0 = 1 ; asked 1 3 = 1 ; days 1 ; settle 1 = 1 ; asked 2 3 = 1
            """);
        runs.edge("who can't pay does not hold up those behind", four.replace("fly 3 0 300 0 0", "fly 3 0 300 0 0 ; spend 3 0 300 0") + """
            flight 5 1 0 1 ; ask 1 0 0 ; ask 3 0 0 ; settle 0 = 1 ; asked 0 3 = 1 ; asked 1 3 = 0 ; open 0 = 0
            """);
        runs.edge("by TIER ahead of numbers, within a TIER by number", four + """
            flight 5 1 0 3 ; ask 0 0 0 ; ask 2 0 1 ; ask 2 0 2 ; ask 3 0 3 ; ask 1 0 0 ; settle 0 = 3 ; asked 0 3 = 0 ; asked 1 3 = 1 ; asked 2 3 = 1 ; asked 3 3 = 1 ; asked 4 3 = 0
            line 4 1 = 3 ; line 5 1 = 2 ; line 6 1 = 2
            """);
    }

    private void pays() {
        runs.edge("who can't pay waits on: just too few, just enough, one more", """
            member 0 0 ; member 0 0 ; member 0 0 ; fly 0 0 99 0 0 ; fly 1 0 100 0 0 ; fly 2 0 101 0 0 ; flight 5 100 2 9 ; ask 0 0 0 ; ask 1 0 0 ; ask 2 0 0
            settle 0 = 2 ; asked 0 4 = NONE ; asked 1 4 = 100 ; asked 2 4 = 100 ; stands 0 0 0 0 = 99 ; stands 1 0 0 0 = 0 ; stands 2 0 0 0 = 1 ; open 0 = 7 ; count 6 = 1
            """);
        runs.edge("who waits on may pay later", """
            member 0 0 ; flight 5 100 2 1 ; ask 0 0 0 ; settle 0 = 0 ; count 1 = 0 ; fly 0 0 100 0 0 ; settle 0 = 1 ; asked 0 3 = 1
            """);
        runs.edge("it is a SPEND (a LINE about TODAY, at the FLIGHT's PARTNER)", """
            member 0 0 ; member 0 0 ; fly 1 0 1000 0 0 ; days 3 ; flight 5 500 2 1 ; ask 1 0 3 ; settle 0 = 1 ; count 1 = 2
            line 1 0 = 1 ; line 1 1 = 1 ; line 1 2 = 3 ; line 1 3 = 3 ; line 1 4 = NONE ; line 1 5 = 500 ; line 1 6 = 2 ; brought 1 3 3 = 500
            owes 2 3 3 = -4 ; owes 2 2 3 = 0 ; owes 2 3 2 = 0 ; back 1 3 = 2 ; owes 2 3 3 = 0
            """);
        runs.edge("at the FLIGHT's PARTNER, of several FLIGHTS and ASKS", """
            member 0 0 ; fly 0 0 999 0 0 ; flight 5 10 1 1 ; ask 0 0 0 ; ask 0 0 0 ; flight 5 20 2 1 ; ask 0 1 0 ; flight 5 30 3 1 ; ask 0 2 0 ; settle 2 = 1 ; settle 1 = 1 ; settle 0 = 1
            line 1 6 = 3 ; line 1 5 = 30 ; line 2 6 = 2 ; line 2 5 = 20 ; line 3 6 = 1 ; line 3 5 = 10
            """);
        runs.edge("it pays from its POOL", """
            member 0 0 ; member 0 0 ; member 0 0 ; pool 0 1 ; pool 1 1 ; fly 0 0 60 0 0 ; fly 1 0 60 0 0 ; fly 2 0 60 0 0 ; flight 5 100 0 9 ; ask 1 0 0 ; ask 1 0 0 ; ask 2 0 0
            settle 0 = 1 ; asked 0 3 = 1 ; stands 0 0 0 0 = 0 ; stands 1 0 0 0 = 20 ; stands 2 0 0 0 = 60
            """);
        runs.edge("what one has paid another one of the POOL cannot", """
            member 0 0 ; member 0 0 ; pool 0 1 ; pool 1 1 ; fly 0 0 150 0 0 ; flight 5 100 0 9 ; ask 1 0 0 ; ask 0 0 0 ; settle 0 = 1 ; asked 0 3 = 1 ; asked 1 3 = 0
            """);
        runs.edge("what LAPSES TODAY pays nothing", """
            member 0 0 ; tape 'earn l lapse 5 price 10 tier 0' ; terms 0 ; fly 0 0 20 0 0 ; flight 9 1 0 9 ; ask 0 0 0 ; ask 0 0 0 ; days 4 ; settle 0 = 2
            fly 0 0 20 0 0 ; ask 0 0 0 ; days 1 ; settle 0 = 0 ; asked 2 4 = NONE
            """);
        runs.edge("AS KNOWN TODAY: what is WITHDRAWN pays nothing", "member 0 0 ; fly 0 0 100 0 0 ; withdraw 0 ; flight 5 100 0 1 ; ask 0 0 0 ; settle 0 = 0");
        runs.edge("a seat is kept when its LINE is WITHDRAWN or BACK", """
            member 0 0 ; fly 0 0 100 0 0 ; flight 5 50 0 2 ; ask 0 0 0 ; ask 0 0 0 ; settle 0 = 2 ; withdraw 1 = 1 ; back 2 0 = 3 ; asked 0 3 = 1 ; asked 1 4 = 50 ; open 0 = 0 ; count 6 = 0
            """);
    }

    private void prices() {
        String rich = "member 0 0\n";
        runs.edge("what E of price gives (0 .. 99999): 0 at least", rich + terms("100", "f-1", "0") + """
            fly 0 0 1 0 0 ; flight 5 1 0 9 ; ask 0 0 0 ; ask 0 0 1 ; ask 0 0 2 ; settle 0 = 3 ; asked 0 4 = 0 ; asked 1 4 = 0 ; asked 2 4 = 1 ; count 1 = 2 ; stands 0 0 0 0 = 99
            """);
        runs.edge("what E of price gives (0 .. 99999): 99999 at most", rich + terms("99999", "99997+f", "0") + """
            4 x fly 0 0 1 0 0
            flight 5 1 0 9 ; ask 0 0 1 ; ask 0 0 2 ; ask 0 0 3 ; settle 0 = 3 ; asked 0 4 = 99998 ; asked 1 4 = 99999 ; asked 2 4 = 99999 ; stands 0 0 0 0 = 100000
            """);
        runs.edge("a price of 0 is none, and has a seat", rich + terms("0", "0", "0") + """
            flight 5 1 0 2 ; ask 0 0 0 ; ask 0 0 0 ; ask 0 0 0 ; settle 0 = 2 ; count 1 = 0 ; asked 0 3 = 1 ; asked 0 4 = 0 ; asked 1 4 = 0 ; asked 2 4 = NONE ; open 0 = 0 ; count 6 = 1
            """);
        runs.edge("o: OPEN ones then", rich + terms("9999", "o*10", "0") + """
            fly 0 0 1 0 0 ; flight 5 1 0 3 ; ask 0 0 0 ; ask 0 0 0 ; ask 0 0 0 ; settle 0 = 3 ; asked 0 4 = 30 ; asked 1 4 = 20 ; asked 2 4 = 10
            """);
        runs.edge("o stays when one can't pay", "member 0 0 ; member 0 0\n" + terms("l", "o*10", "0") + """
            fly 0 0 29 0 0 ; fly 1 0 99 0 0 ; flight 5 1 0 3 ; ask 0 0 0 ; ask 1 0 0 ; ask 1 0 0 ; settle 0 = 2 ; asked 0 4 = NONE ; asked 1 4 = 30 ; asked 2 4 = 20
            settle 0 = 1 ; asked 0 4 = 10
            """);
        runs.edge("d: its DAY less TODAY", rich + terms("9999", "d", "0") + """
            fly 0 0 1 0 0 ; flight 1200 1 0 3 ; flight 1 1 0 3 ; ask 0 0 0 ; ask 0 1 0 ; settle 0 = 1 ; settle 1 = 1 ; asked 0 4 = 1200 ; asked 1 4 = 1
            flight 9 1 0 1 ; ask 0 2 0 ; days 7 ; settle 2 = 1 ; asked 2 4 = 2
            """);
        runs.edge("l LEG, f CLASS", rich + terms("99999", "l*10+f", "0") + "fly 0 0 1 0 0 ; flight 5 9999 0 9 ; ask 0 0 0 ; settle 0 = 1 ; asked 0 4 = 99990 ; flight 5 1 0 9 ; fly 0 0 1 0 0 ; ask 0 1 3 ; settle 1 = 1 ; asked 1 4 = 13");
        for (int kind = 0; kind < 4; kind++) {
            runs.edge("t TIER, k KIND, " + kind, "member " + kind + " 0\n" + terms("200", "k*10+t", "q/100") + "fly 0 0 1 0 0 ; flight 5 1 0 9 ; ask 0 0 0 ; settle 0 = 1 ; asked 0 4 = " + (kind * 10 + 2));
        }
        runs.edge("t and k are the asking MEMBER's", "member 3 0 ; member 0 0 ; member 2 0 ; member 1 0\n" + terms("l", "k*10+t+1", "q/100") + """
            fly 0 0 99 0 0 ; fly 1 0 200 0 0 ; fly 2 0 100 0 0 ; fly 3 0 300 0 0 ; flight 5 1 0 0 ; flight 5 1 0 9 ; ask 2 1 1 ; ask 3 1 0 ; ask 0 1 2 ; ask 1 1 3 ; settle 1 = 4
            asked 0 4 = 22 ; asked 1 4 = 14 ; asked 2 4 = 32 ; asked 3 4 = 3
            """);
        runs.edge("TERMS in force TODAY", """
            member 0 0 ; rule 0 0 ; fly 0 0 999 0 0 ; tape 'earn l lapse 9999 price 7 tier 0' ; terms 3 ; flight 9 50 0 9 ; ask 0 0 0 ; days 2 ; settle 0 = 1 ; asked 0 4 = 50
            ask 0 0 0 ; days 1 ; settle 0 = 1 ; asked 1 4 = 7 ; tape 'earn l lapse 9999 price 8 tier 0' ; terms 5 ; ask 0 0 0 ; days 1 ; settle 0 = 1 ; asked 2 4 = 7
            ask 0 0 0 ; days 1 ; settle 0 = 1 ; asked 3 4 = 8
            """);
        runs.edge("Without any a seat costs LEG", "member 0 0 ; fly 0 0 9999 0 0 ; fly 0 0 1 0 0 ; flight 5 9999 0 1 ; flight 5 1 0 1 ; ask 0 0 3 ; ask 0 1 0 ; settle 0 = 1 ; settle 1 = 1 ; asked 0 4 = 9999 ; asked 1 4 = 1");
    }

    private void lines() {
        String told = "member 0 0\n" + terms("10", "f", "0");
        runs.edge("all when 100 LINES are told, wait on", told + """
            99 x fly 0 0 1 0 0
            flight 5 1 0 9 ; ask 0 0 1 ; ask 0 0 1 ; settle 0 = 1 ; asked 0 3 = 1 ; asked 1 4 = NONE ; count 1 = 100 ; open 0 = 8 ; settle 0 = 0 ; stands 0 0 0 0 = 989
            """);
        runs.edge("98 are told: two more", told + "98 x fly 0 0 1 0 0\n flight 5 1 0 9 ; ask 0 0 1 ; ask 0 0 1 ; ask 0 0 1 ; settle 0 = 2 ; asked 2 3 = 0 ; count 1 = 100");
        runs.edge("all, also those whose price is 0", told + "100 x fly 0 0 1 0 0\n flight 5 1 0 9 ; ask 0 0 0 ; ask 0 0 1 ; settle 0 = 0 ; asked 0 4 = NONE ; asked 1 4 = NONE ; open 0 = 9 ; count 6 = 2");
        runs.edge("a price of 0 takes no LINE, so the next may", told + "99 x fly 0 0 1 0 0\n flight 5 1 0 9 ; ask 0 0 0 ; ask 0 0 1 ; ask 0 0 0 ; settle 0 = 2 ; asked 0 3 = 1 ; asked 1 3 = 1 ; asked 2 3 = 0 ; count 1 = 100");
    }

    private void asked() {
        runs.promise(25);
        runs.edge("what 0 MEMBER, 1 FLIGHT, 2 CLASS, 3 whether it has a seat (1, 0), 4 what it paid (NONE: it waits)", """
            member 0 0 ; member 0 0 ; fly 1 0 50 0 0 ; flight 5 20 0 9 ; flight 5 30 0 9 ; ask 1 1 3 ; ask 0 1 2
            asked 0 0 = 1 ; asked 0 1 = 1 ; asked 0 2 = 3 ; asked 0 3 = 0 ; asked 0 4 = NONE ; settle 1 = 1
            asked 0 0 = 1 ; asked 0 1 = 1 ; asked 0 2 = 3 ; asked 0 3 = 1 ; asked 0 4 = 30 ; asked 1 0 = 0 ; asked 1 2 = 2 ; asked 1 3 = 0 ; asked 1 4 = NONE
            """);
        runs.edge("BAD", """
            asked 0 0 = BAD ; member 0 0 ; flight 5 1 0 0 ; ask 0 0 0 ; asked -1 0 = BAD ; asked 1 0 = BAD ; asked 0 -1 = BAD ; asked 0 5 = BAD ; asked MIN 0 = BAD ; asked MAX 0 = BAD
            """);
        runs.edge("it waits on when its FLIGHT's DAY is over", "member 0 0 ; flight 5 1 0 9 ; ask 0 0 0 ; days 6 ; asked 0 3 = 0 ; asked 0 4 = NONE ; count 6 = 1");
    }

    private void open() {
        runs.promise(26);
        runs.edge("SEATS of a FLIGHT that are OPEN", """
            member 0 0 ; fly 0 0 9 0 0 ; flight 5 1 0 0 ; flight 5 1 0 2 ; flight 5 1 0 9 ; open 0 = 0 ; open 1 = 2 ; open 2 = 9
            ask 0 1 0 ; open 1 = 2 ; settle 1 = 1 ; open 1 = 1 ; ask 0 1 0 ; settle 1 = 1 ; open 1 = 0 ; open 0 = 0 ; open 2 = 9
            """);
        runs.edge("BAD", "open 0 = BAD ; flight 5 1 0 0 ; open -1 = BAD ; open 0 = 0 ; open 1 = BAD ; open MIN = BAD ; open MAX = BAD");
        runs.edge("they stay OPEN when its DAY is over", "flight 5 1 0 4 ; days 6 ; open 0 = 4");
    }
}
