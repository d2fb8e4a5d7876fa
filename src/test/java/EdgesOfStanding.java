/** Promises 15 to 18: how it stands, what a LINE brought, what a PARTNER owes. */
final class EdgesOfStanding {
    private final Runs runs;

    EdgesOfStanding(Runs runs) {
        this.runs = runs;
    }

    void all() {
        runs.promise(15);
        known();
        order();
        fly();
        life();
        spend();
        spendFromPools();
        gift();
        back();
        years();
        tier();
        stands();
        brought();
        owes();
        rate();
    }

    private void known() {
        runs.edge("KNOWN on a DAY k: TOLD on k or ahead of it", """
            member 0 0 ; days 5 ; fly 0 3 100 0 0 ; days 5
            stands 0 10 0 0 = 0 ; stands 0 10 4 0 = 0 ; stands 0 10 5 0 = 100 ; stands 0 10 6 0 = 100 ; stands 0 10 1200 0 = 100
            brought 0 10 4 = NO ; brought 0 10 5 = 100
            """);
        runs.edge("and not WITHDRAWN on k or ahead of it", """
            member 0 0 ; fly 0 0 100 0 0 ; days 5 ; withdraw 0 ; days 5
            stands 0 5 4 0 = 100 ; stands 0 5 5 0 = 0 ; stands 0 5 6 0 = 0 ; stands 0 5 0 0 = 100 ; stands 0 5 1200 0 = 0
            brought 0 5 4 = 100 ; brought 0 5 5 = NO ; brought 0 5 6 = NO
            """);
        runs.edge("TOLD and WITHDRAWN on one DAY: KNOWN never", """
            member 0 0 ; days 5 ; fly 0 5 100 0 0 ; withdraw 0 ; brought 0 5 4 = NO ; brought 0 5 5 = NO ; brought 0 5 6 = NO ; stands 0 5 5 0 = 0
            """);
        runs.edge("LINES about d or earlier DAYS", """
            member 0 0 ; days 10 ; fly 0 5 100 0 0
            stands 0 4 10 0 = 0 ; stands 0 5 10 0 = 100 ; stands 0 6 10 0 = 100 ; stands 0 4 10 1 = 0 ; stands 0 5 10 1 = 100
            brought 0 4 10 = NO ; brought 0 5 10 = 100 ; brought 0 6 10 = 100
            """);
        runs.edge("for a DAY ahead of the one on which it is known, and behind it", """
            member 0 0 ; days 10 ; fly 0 0 100 0 0 ; stands 0 0 10 0 = 100 ; stands 0 0 9 0 = 0 ; stands 0 719 10 0 = 100 ; stands 0 720 10 0 = 0
            """);
    }

    private void order() {
        runs.edge("LINES are gone through by the DAYS that they are about", """
            member 0 0 ; days 5 ; spend 0 3 60 0 ; fly 0 2 60 0 0 ; brought 0 5 5 = 60
            spend 0 2 10 0 ; brought 2 5 5 = 10 ; brought 0 5 5 = 0 ; withdraw 1 ; brought 2 5 5 = 0
            """);
        runs.edge("of one DAY by numbers", """
            member 0 0 ; days 5 ; spend 0 3 60 0 ; fly 0 3 60 0 0 ; spend 0 3 60 0 ; spend 0 3 1 0
            brought 0 5 5 = 0 ; brought 2 5 5 = 60 ; brought 3 5 5 = 0
            """);
        runs.edge("a LINE told last may be gone through first", """
            member 0 0 ; days 5 ; fly 0 1 10 0 0 ; spend 0 1 10 0 ; spend 0 1 10 0 ; spend 0 0 10 0 ; fly 0 0 10 0 0
            brought 1 5 5 = 10 ; brought 2 5 5 = 10 ; brought 3 5 5 = 0 ; stands 0 5 5 0 = 0 ; stands 0 0 5 0 = 10
            """);
    }

    private void fly() {
        runs.edge("so many MILES as E of earn gives (0 .. 99999): 0 at least", """
            member 0 0 ; tape 'earn l-10 lapse 99 price 1 tier 0' ; terms 0
            fly 0 0 8 0 0 ; fly 0 0 9 0 0 ; fly 0 0 10 0 0 ; fly 0 0 11 0 0
            brought 0 0 0 = 0 ; brought 1 0 0 = 0 ; brought 2 0 0 = 0 ; brought 3 0 0 = 1 ; stands 0 0 0 0 = 1 ; stands 0 0 0 1 = 1
            """);
        runs.edge("so many MILES as E of earn gives (0 .. 99999): 99999 at most", """
            member 0 0 ; tape 'earn 99990+l lapse 99 price 1 tier 0' ; terms 0
            fly 0 0 8 0 0 ; fly 0 0 9 0 0 ; fly 0 0 10 0 0 ; brought 0 0 0 = 99998 ; brought 1 0 0 = 99999 ; brought 2 0 0 = 99999
            stands 0 0 0 0 = 299996
            """);
        runs.edge("100 LINES of 99999 MILES", """
            member 0 0 ; tape 'earn 99999 lapse 99 price 1 tier 0' ; terms 0 ; 100 x fly 0 0 1 1 0
            stands 0 0 0 0 = 9999900 ; stands 0 0 0 1 = 9999900 ; stands 0 99 0 4 = 9999900 ; owes 1 0 0 = 99999
            rate 1 0 999 ; owes 1 0 0 = 9989900
            """);
        runs.edge("E's int wraps ahead of its bounds", """
            member 0 0 ; tape 'earn 99999*l lapse 99 price 1 tier 0' ; terms 0
            fly 0 0 9999 0 0 ; fly 0 0 1 0 0 ; brought 0 0 0 = 99999 ; brought 1 0 0 = 99999
            tape 'earn 99999*l*c lapse 99 price 1 tier 0' ; terms 0
            fly 0 0 3000 0 10 ; brought 2 0 0 = 0
            """);
        runs.edge("they come to the MEMBER, are POINTS of that YEAR, too, and MADE by the PARTNER", """
            member 0 0 ; member 0 0 ; fly 1 0 1000 2 0 ; stands 0 0 0 0 = 0 ; stands 1 0 0 0 = 1000 ; stands 0 0 0 1 = 0 ; stands 1 0 0 1 = 1000
            owes 1 0 0 = 0 ; owes 2 0 0 = 10 ; owes 3 0 0 = 0
            """);
        runs.edge("Without any a FLY brings LEG MILES, LIFE is 720", """
            member 2 0 ; fly 0 0 123 31 45 ; brought 0 0 0 = 123 ; stands 0 719 0 0 = 123 ; stands 0 720 0 0 = 0 ; stands 0 720 0 4 = 123
            """);
    }

    private static String lived(String lapse) {
        return "member 0 0 ; tape 'earn 100 lapse " + lapse + " price 1 tier 0' ; terms 0 ; fly 0 0 1 0 0\n";
    }

    /** Two in a pool; whose MILES a SPEND takes tells which of two DAYS far behind all others is the first. */
    private static String takenFirst(int kind, String lapseOfSecond, String lapseOfFirst) {
        return "member 0 0 ; member " + kind + " 0 ; pool 0 0 ; pool 1 0 ; rule 0 0\n"
            + "tape 'earn 100 lapse " + lapseOfSecond + " price 1 tier 0' ; terms 0\n"
            + "tape 'earn 100 lapse " + lapseOfFirst + " price 1 tier 0' ; terms 1\n"
            + "days 1 ; fly 1 0 1 0 0 ; fly 0 1 1 0 0 ; spend 0 1 100 0 ; brought 2 1 1 = 100\n";
    }

    private void life() {
        runs.edge("LOTS: they are there ahead of the DAY on which they LAPSE, not on it", lived("5") + """
            stands 0 0 0 0 = 100 ; stands 0 4 0 0 = 100 ; stands 0 5 0 0 = 0 ; stands 0 6 0 0 = 0
            stands 0 4 0 4 = 0 ; stands 0 5 0 4 = 100 ; stands 0 6 0 4 = 100
            """);
        for (String lapse : new String[] {"1", "0", "0-1", "0-99999", "32768*65536"}) {
            runs.edge("LIFE: what E of lapse gives, 1 at least: " + lapse, lived(lapse) + "stands 0 0 0 0 = 100 ; stands 0 1 0 0 = 0 ; stands 0 1 0 4 = 100");
        }
        runs.edge("LIFE: what E of lapse gives, just above the least", lived("2") + "stands 0 1 0 0 = 100 ; stands 0 2 0 0 = 0");
        for (String lapse : new String[] {"9999", "10000", "99999", "32767*65536"}) {
            runs.edge("LIFE: 9999 at most, so it lapses ahead of one of 9999 a DAY later: " + lapse,
                takenFirst(0, lapse, "9999") + "stands 1 1 1 0 = 0 ; stands 0 1 1 0 = 100");
            runs.edge("LIFE: 9999 at most, and with one of 9998 a DAY later: " + lapse,
                takenFirst(0, lapse, "9998") + "stands 1 1 1 0 = 100 ; stands 0 1 1 0 = 0");
        }
        runs.edge("LIFE: just below the most", takenFirst(0, "9998", "9998") + "stands 1 1 1 0 = 0 ; stands 0 1 1 0 = 100");
        runs.edge("of a CHILD 9999, not less", takenFirst(1, "5", "9998") + "stands 1 1 1 0 = 100 ; stands 0 1 1 0 = 0");
        runs.edge("of a CHILD 9999, not more", takenFirst(1, "5", "9999") + "stands 1 1 1 0 = 0 ; stands 0 1 1 0 = 100");
        runs.edge("of a CHILD 9999, without TERMS too", "member 1 0 ; fly 0 0 9 0 0 ; stands 0 720 0 0 = 9 ; stands 0 1200 0 0 = 9 ; stands 0 1200 0 4 = 0");
        runs.edge("of a CHILD alone", """
            member 0 0 ; member 2 0 ; member 3 0 ; tape 'earn 9 lapse 3 price 1 tier 0' ; terms 0 ; fly 0 0 1 0 0 ; fly 1 0 1 0 0 ; fly 2 0 1 0 0
            stands 0 2 0 0 = 9 ; stands 1 2 0 0 = 9 ; stands 2 2 0 0 = 9 ; stands 0 3 0 0 = 0 ; stands 1 3 0 0 = 0 ; stands 2 3 0 0 = 0
            """);
        runs.edge("LIFE days behind the LINE's DAY, not the one on which it was TOLD", """
            member 0 0 ; tape 'earn 9 lapse 10 price 1 tier 0' ; terms 0 ; days 7 ; fly 0 4 1 0 0 ; stands 0 13 7 0 = 9 ; stands 0 14 7 0 = 0
            """);
    }

    private void spend() {
        runs.edge("SPEND: If there are fewer it brings nothing", """
            member 0 0 ; fly 0 0 100 0 0 ; spend 0 0 101 1 ; brought 1 0 0 = 0 ; stands 0 0 0 0 = 100 ; owes 1 0 0 = 0
            spend 0 0 100 1 ; brought 2 0 0 = 100 ; stands 0 0 0 0 = 0 ; spend 0 0 1 1 ; brought 3 0 0 = 0
            """);
        runs.edge("SPEND: one fewer than there are", "member 0 0 ; fly 0 0 100 0 0 ; spend 0 0 99 1 ; brought 1 0 0 = 99 ; stands 0 0 0 0 = 1 ; spend 0 0 1 1 ; brought 2 0 0 = 1");
        runs.edge("SPEND: of nobody's LOTS", "member 0 0 ; spend 0 0 1 1 ; brought 0 0 0 = 0");
        runs.edge("from LOTS that are there on its DAY", """
            member 0 0 ; tape 'earn 100 lapse 5 price 1 tier 0' ; terms 0 ; fly 0 0 1 0 0 ; days 9
            spend 0 4 10 0 ; spend 0 5 10 0 ; spend 0 6 10 0 ; brought 1 9 9 = 10 ; brought 2 9 9 = 0 ; brought 3 9 9 = 0
            stands 0 4 9 0 = 90 ; stands 0 9 9 4 = 90
            """);
        runs.edge("those that LAPSE first first", """
            member 0 0 ; rule 0 0 ; tape 'earn 100 lapse 20 price 1 tier 0' ; terms 0 ; tape 'earn 100 lapse 5 price 1 tier 0' ; terms 1
            days 1 ; fly 0 0 1 0 0 ; fly 0 1 1 0 0 ; spend 0 1 130 0 ; brought 2 1 1 = 130 ; stands 0 6 1 4 = 0 ; stands 0 19 1 0 = 70 ; stands 0 20 1 4 = 70
            """);
        runs.edge("those that LAPSE first first, and then just the first", """
            member 0 0 ; rule 0 0 ; tape 'earn 100 lapse 20 price 1 tier 0' ; terms 0 ; tape 'earn 100 lapse 5 price 1 tier 0' ; terms 1
            days 1 ; fly 0 0 1 0 0 ; fly 0 1 1 0 0 ; spend 0 1 99 0 ; stands 0 6 1 4 = 1 ; stands 0 19 1 0 = 100
            """);
        runs.edge("a LOT of several SPENDS", """
            member 0 0 ; fly 0 0 10 0 0 ; 4 x spend 0 0 3 1
            brought 1 0 0 = 3 ; brought 2 0 0 = 3 ; brought 3 0 0 = 3 ; brought 4 0 0 = 0 ; stands 0 0 0 0 = 1
            """);
        runs.edge("POINTS stay when MILES are SPENT or LAPSE", """
            member 0 0 ; tape 'earn 100 lapse 5 price 1 tier 0' ; terms 0 ; fly 0 0 1 0 0 ; spend 0 0 60 0 ; stands 0 0 0 1 = 100 ; stands 0 5 0 1 = 100
            """);
    }

    private void spendFromPools() {
        String three = "member 0 0 ; member 0 0 ; member 0 0 ; fly 2 0 100 0 0 ; fly 1 0 100 0 0 ; fly 0 0 100 0 0\n";
        runs.edge("without one of that MEMBER alone", three + "pool 1 0 ; pool 2 0 ; spend 0 0 101 0 ; brought 3 0 0 = 0 ; spend 0 0 100 0 ; brought 4 0 0 = 100");
        runs.edge("of all MEMBERS of the MEMBER's POOL", three + """
            pool 0 2 ; pool 1 2 ; pool 2 2 ; spend 1 0 301 0 ; brought 3 0 0 = 0 ; spend 1 0 300 0 ; brought 4 0 0 = 300
            stands 0 0 0 0 = 0 ; stands 1 0 0 0 = 0 ; stands 2 0 0 0 = 0
            """);
        runs.edge("of one DAY those of the lesser MEMBER", three + """
            pool 0 2 ; pool 1 2 ; pool 2 2 ; spend 2 0 150 0 ; stands 0 0 0 0 = 0 ; stands 1 0 0 0 = 50 ; stands 2 0 0 0 = 100
            """);
        runs.edge("not of another POOL", three + """
            pool 0 0 ; pool 1 1 ; pool 2 0 ; spend 2 0 200 0 ; brought 3 0 0 = 200 ; stands 1 0 0 0 = 100 ; spend 1 0 101 0 ; brought 4 0 0 = 0
            """);
        runs.edge("those that LAPSE first first, ahead of those of the lesser MEMBER", """
            member 0 0 ; member 0 0 ; pool 0 0 ; pool 1 0 ; days 1 ; fly 0 1 100 0 0 ; fly 1 0 100 0 0 ; spend 0 1 100 0
            stands 0 1 1 0 = 100 ; stands 1 1 1 0 = 0
            """);
        runs.edge("alone in a POOL", "member 0 0 ; member 0 0 ; pool 0 1 ; fly 0 0 10 0 0 ; fly 1 0 10 0 0 ; spend 0 0 11 0 ; brought 2 0 0 = 0 ; spend 0 0 10 0 ; brought 3 0 0 = 10");
        runs.edge("all 10 in one POOL", """
            10 x member 0 0
            pool 0 0 ; pool 1 0 ; pool 2 0 ; pool 3 0 ; pool 4 0 ; pool 5 0 ; pool 6 0 ; pool 7 0 ; pool 8 0 ; pool 9 0
            fly 0 0 1 0 0 ; fly 3 0 10 0 0 ; fly 9 0 100 0 0 ; spend 5 0 111 3 ; brought 3 0 0 = 111 ; stands 9 0 0 0 = 0
            """);
    }

    private void gift() {
        runs.edge("GIFT: likewise, from LOTS of the MEMBER alone", """
            member 0 0 ; member 0 0 ; member 0 0 ; pool 0 0 ; pool 1 0 ; fly 0 0 50 0 0 ; fly 1 0 50 0 0 ; gift 0 0 51 2 ; gift 0 0 50 2
            brought 2 0 0 = 0 ; brought 3 0 0 = 50 ; stands 0 0 0 0 = 0 ; stands 1 0 0 0 = 50 ; stands 2 0 0 0 = 50
            """);
        runs.edge("GIFT: from LOTS of the MEMBER alone, not from those of its POOL that LAPSE first", """
            member 0 0 ; member 0 0 ; member 0 0 ; pool 0 0 ; pool 1 0 ; pool 2 0 ; fly 0 0 50 0 0 ; days 1 ; fly 1 1 50 0 0 ; gift 1 1 40 2
            stands 0 1 1 0 = 50 ; stands 1 1 1 0 = 10 ; stands 2 720 1 0 = 40 ; stands 2 721 1 0 = 0
            """);
        runs.edge("GIFT: If there are fewer it brings nothing", """
            member 0 0 ; member 0 0 ; fly 0 0 50 0 0 ; gift 0 0 51 1 ; brought 1 0 0 = 0 ; stands 0 0 0 0 = 50 ; stands 1 0 0 0 = 0
            gift 0 0 49 1 ; brought 2 0 0 = 49 ; stands 0 0 0 0 = 1 ; gift 0 0 1 1 ; brought 3 0 0 = 1 ; gift 0 0 1 1 ; brought 4 0 0 = 0 ; stands 1 0 0 0 = 50
            """);
        runs.edge("GIFT: from LOTS that are there on its DAY", """
            member 0 0 ; member 0 0 ; tape 'earn 100 lapse 5 price 1 tier 0' ; terms 0 ; fly 0 0 1 0 0 ; days 9
            gift 0 4 10 1 ; gift 0 5 10 1 ; brought 1 9 9 = 10 ; brought 2 9 9 = 0 ; stands 1 4 9 0 = 10 ; stands 1 5 9 0 = 0 ; stands 1 5 9 4 = 10
            """);
        String two = """
            member 0 0 ; member 0 0 ; rule 0 0 ; tape 'earn 100 lapse 20 price 1 tier 0' ; terms 0 ; tape 'earn 100 lapse 5 price 1 tier 0' ; terms 1
            days 1 ; fly 0 0 1 0 0 ; fly 0 1 1 0 0
            """;
        runs.edge("as one LOT that LAPSES when the first of what was taken would", two + """
            gift 0 1 150 1 ; brought 2 1 1 = 150 ; stands 1 5 1 0 = 150 ; stands 1 6 1 0 = 0 ; stands 1 6 1 4 = 150 ; stands 0 6 1 0 = 50 ; stands 0 20 1 4 = 50
            """);
        runs.edge("the first of what was taken, not of what was there ahead of it", two + """
            spend 0 1 100 0 ; gift 0 1 60 1 ; stands 1 6 1 0 = 60 ; stands 1 19 1 0 = 60 ; stands 1 20 1 0 = 0
            """);
        runs.edge("of a LOT of 0 MILES nothing is taken", """
            member 0 0 ; member 0 0 ; rule 0 0 ; tape 'earn l-1 lapse 20 price 1 tier 0' ; terms 0 ; tape 'earn 0 lapse 5 price 1 tier 0' ; terms 1
            days 1 ; fly 0 0 101 0 0 ; fly 0 1 1 0 0 ; gift 0 1 100 1 ; stands 1 6 1 0 = 100 ; stands 1 19 1 0 = 100 ; stands 1 20 1 0 = 0
            """);
        runs.edge("a LOT that LAPSED is not the first of what was taken", """
            member 0 0 ; member 0 0 ; rule 0 0 ; tape 'earn 100 lapse 2 price 1 tier 0' ; terms 0 ; tape 'earn 100 lapse 9 price 1 tier 0' ; terms 1
            days 2 ; fly 0 0 1 0 0 ; fly 0 1 1 0 0 ; gift 0 2 100 1 ; brought 2 2 2 = 100 ; stands 1 9 2 0 = 100 ; stands 1 10 2 0 = 0 ; stands 0 2 2 4 = 100
            """);
        runs.edge("what was given is no POINTS, nor MADE", "member 0 0 ; member 0 0 ; fly 0 0 1000 1 0 ; gift 0 0 1000 1 ; stands 1 0 0 1 = 0 ; stands 0 0 0 1 = 1000 ; owes 1 0 0 = 10");
        runs.edge("what was given may be given on, and spent by the other one's POOL", """
            member 0 0 ; member 0 0 ; member 0 0 ; pool 1 0 ; pool 2 0 ; fly 0 0 90 0 0 ; gift 0 0 90 1 ; spend 2 0 40 0 ; gift 1 0 50 0 ; gift 1 0 1 0
            brought 2 0 0 = 40 ; brought 3 0 0 = 50 ; brought 4 0 0 = 0 ; stands 0 719 0 0 = 50 ; stands 0 720 0 4 = 50
            """);
        runs.edge("a GIFT to a CHILD LAPSES as it would have", "member 0 0 ; member 1 0 ; fly 0 0 90 0 0 ; gift 0 0 90 1 ; stands 1 719 0 0 = 90 ; stands 1 720 0 0 = 0");
        runs.edge("a GIFT from a CHILD lives as long as its LOT", "member 1 0 ; member 0 0 ; fly 0 0 90 0 0 ; gift 0 0 90 1 ; stands 1 720 0 0 = 90 ; stands 1 1200 0 0 = 90");
    }

    private void back() {
        String spent = "member 0 0 ; fly 0 0 1000 0 0 ; spend 0 0 1000 1\n";
        runs.edge("BACK: as a LOT that LAPSES GRACE (a rule) days behind its DAY", spent + """
            back 1 0 ; brought 2 0 0 = 1000 ; stands 0 0 0 0 = 1000 ; stands 0 89 0 0 = 1000 ; stands 0 90 0 0 = 0 ; stands 0 90 0 4 = 1000
            """);
        runs.edge("BACK: its DAY is the one that the BACK is about", spent + """
            days 9 ; back 1 4 ; stands 0 3 9 0 = 0 ; stands 0 4 9 0 = 1000 ; stands 0 93 9 0 = 1000 ; stands 0 94 9 0 = 0
            """);
        runs.edge("GRACE 1, the least", spent + "rule 1 1 ; back 1 0 ; stands 0 0 0 0 = 1000 ; stands 0 1 0 0 = 0 ; rule 1 2 ; stands 0 1 0 0 = 1000 ; stands 0 2 0 0 = 0");
        runs.edge("GRACE 999, the most", spent + "rule 1 999 ; back 1 0 ; stands 0 998 0 0 = 1000 ; stands 0 999 0 0 = 0");
        runs.edge("SPENT is so much less at that PARTNER", spent + "owes 1 0 0 = -8 ; days 1 ; back 1 1 ; owes 1 0 1 = -8 ; owes 1 1 1 = 0 ; owes 1 1 0 = -8");
        runs.edge("and is not BACK yet", spent + "back 1 0 ; back 1 0 ; brought 2 0 0 = 1000 ; brought 3 0 0 = 0 ; stands 0 0 0 0 = 1000 ; owes 1 0 0 = 0");
        runs.edge("not BACK yet: by DAYS, not by the order of telling", spent + """
            days 5 ; back 1 5 ; back 1 3 ; brought 2 5 5 = 0 ; brought 3 5 5 = 1000 ; withdraw 3 ; brought 2 5 5 = 1000
            """);
        runs.edge("if its SPEND brought something", "member 0 0 ; spend 0 0 5 1 ; back 0 0 ; brought 1 0 0 = 0 ; stands 0 0 0 0 = 0 ; owes 1 0 0 = 0");
        runs.edge("if its SPEND brought something: 1 is something", "member 0 0 ; fly 0 0 1 0 0 ; spend 0 0 1 1 ; back 1 0 ; brought 2 0 0 = 1 ; stands 0 0 0 0 = 1");
        runs.edge("a BACK that brought nothing does not keep a later one from it", """
            member 0 0 ; fly 0 0 9 0 0 ; spend 0 0 9 1 ; back 1 0 ; days 1 ; withdraw 2 ; back 1 1 ; brought 3 1 1 = 9 ; brought 2 1 0 = 9
            """);
        runs.edge("its SPEND is ahead of it in this row: not if it is not KNOWN", spent + """
            back 1 0 ; days 2 ; withdraw 1 ; brought 2 2 1 = 1000 ; brought 2 2 2 = 0 ; stands 0 2 2 0 = 1000 ; stands 0 2 1 0 = 1000
            """);
        runs.edge("to that MEMBER, whoever's LOTS it took", """
            member 0 0 ; member 0 0 ; pool 0 0 ; pool 1 0 ; fly 1 0 70 0 0 ; spend 0 0 70 1 ; back 1 0 ; stands 0 0 0 0 = 70 ; stands 1 0 0 0 = 0
            """);
        runs.edge("to that MEMBER, of several", """
            member 0 0 ; member 0 0 ; member 0 0 ; fly 2 0 70 0 9 ; spend 2 0 70 1 ; fly 1 0 5 0 0 ; back 1 0 ; stands 0 0 0 0 = 0 ; stands 1 0 0 0 = 5 ; stands 2 0 0 0 = 70
            """);
        runs.edge("of the last LINES", """
            member 0 0 ; 97 x fly 0 0 1 0 0 ; spend 0 0 40 1 = 97 ; back 97 0 = 98 ; back 97 0 = 99 ; brought 97 0 0 = 40 ; brought 98 0 0 = 40 ; brought 99 0 0 = 0 ; stands 0 0 0 0 = 97
            """);
        runs.edge("GRACE of a CHILD is GRACE", "member 1 0 ; fly 0 0 70 0 0 ; spend 0 0 70 1 ; back 1 0 ; stands 0 89 0 0 = 70 ; stands 0 90 0 0 = 0");
        runs.edge("what came BACK is no POINTS, and may be SPENT again", """
            member 0 0 ; fly 0 0 70 0 0 ; spend 0 0 70 1 ; back 1 0 ; stands 0 0 0 1 = 70 ; spend 0 0 70 2 ; brought 3 0 0 = 70 ; back 3 0 ; stands 0 0 0 0 = 70
            """);
    }

    private void years() {
        String flown = """
            member 0 0 ; tape 'earn l lapse 9999 price 1 tier q/100' ; terms 0 ; 12 x days 100
            fly 0 0 1 0 0 ; fly 0 359 10 0 0 ; fly 0 360 100 0 0 ; fly 0 719 200 0 0 ; fly 0 720 3 0 0 ; fly 0 1079 30 0 0 ; fly 0 1080 5 0 0 ; fly 0 1200 50 0 0
            """;
        runs.edge("YEAR of a DAY: it by 360: POINTS of its YEAR", flown + """
            stands 0 0 1200 1 = 1 ; stands 0 358 1200 1 = 1 ; stands 0 359 1200 1 = 11 ; stands 0 360 1200 1 = 100 ; stands 0 718 1200 1 = 100
            stands 0 719 1200 1 = 300 ; stands 0 720 1200 1 = 3 ; stands 0 1079 1200 1 = 33 ; stands 0 1080 1200 1 = 5 ; stands 0 1199 1200 1 = 5
            stands 0 1200 1200 1 = 55
            """);
        runs.edge("TIER: by POINTS of that YEAR so far and by those of the YEAR ahead", flown + """
            stands 0 359 1200 2 = 0 ; stands 0 360 1200 2 = 1 ; stands 0 718 1200 2 = 1 ; stands 0 719 1200 2 = 3 ; stands 0 720 1200 2 = 3
            stands 0 1079 1200 2 = 3 ; stands 0 1080 1200 2 = 0 ; stands 0 1200 1200 2 = 0
            """);
        runs.edge("POINTS of two YEARS are not added up", """
            member 0 0 ; tape 'earn l lapse 9999 price 1 tier q/100' ; terms 0 ; 4 x days 100
            fly 0 359 99 0 0 ; fly 0 360 99 0 0 ; stands 0 360 400 2 = 0 ; fly 0 359 1 0 0 ; stands 0 360 400 2 = 1 ; stands 0 359 400 2 = 1
            """);
        runs.edge("the YEAR ahead of YEAR 0 has no POINTS", """
            member 0 0 ; tape 'earn l lapse 9 price 1 tier (q<1)*2+(q>9)' ; terms 0 ; stands 0 0 0 2 = 2 ; fly 0 0 5 0 0 ; stands 0 0 0 2 = 2 ; fly 0 0 5 0 0 ; stands 0 0 0 2 = 2
            """);
    }

    private static String tierOf(int kind, String e) {
        return "member " + kind + " 0 ; tape 'earn l lapse 99 price 1 tier " + e + "' ; terms 0\n";
    }

    private void tier() {
        runs.edge("what E of tier gives (0 .. 3): 0 at least", tierOf(0, "q-10") + "fly 0 0 9 0 0 ; stands 0 0 0 2 = 0 ; fly 0 0 1 0 0 ; stands 0 0 0 2 = 0 ; fly 0 0 1 0 0 ; stands 0 0 0 2 = 1");
        runs.edge("what E of tier gives (0 .. 3): 3 at most", tierOf(0, "q-10") + "fly 0 0 12 0 0 ; stands 0 0 0 2 = 2 ; fly 0 0 1 0 0 ; stands 0 0 0 2 = 3 ; fly 0 0 1 0 0 ; stands 0 0 0 2 = 3 ; fly 0 0 9999 0 0 ; stands 0 0 0 2 = 3");
        runs.edge("of STAFF 1 at least", tierOf(3, "q-10") + "stands 0 0 0 2 = 1 ; fly 0 0 10 0 0 ; stands 0 0 0 2 = 1 ; fly 0 0 1 0 0 ; stands 0 0 0 2 = 1 ; fly 0 0 1 0 0 ; stands 0 0 0 2 = 2 ; fly 0 0 9 0 0 ; stands 0 0 0 2 = 3");
        for (int kind = 0; kind < 3; kind++) {
            runs.edge("of STAFF alone, not of KIND " + kind, tierOf(kind, "0") + "stands 0 0 0 2 = 0");
        }
        runs.edge("Without any TIER is 0, of STAFF 1", "member 0 0 ; member 1 0 ; member 2 0 ; member 3 0 ; fly 0 0 9999 0 0 ; stands 0 0 0 2 = 0 ; stands 1 0 0 2 = 0 ; stands 2 0 0 2 = 0 ; stands 3 1200 0 2 = 1");
        runs.edge("by TERMS in force on that DAY", """
            member 0 0 ; rule 0 0 ; tape 'earn l lapse 99 price 1 tier 1' ; terms 5 ; tape 'earn l lapse 99 price 1 tier 2' ; terms 7
            stands 0 4 0 2 = 0 ; stands 0 5 0 2 = 1 ; stands 0 6 0 2 = 1 ; stands 0 7 0 2 = 2 ; stands 0 1200 0 2 = 2
            """);
        runs.edge("POINTS so far: a FLY's own are behind it", """
            member 0 0 ; tape 'earn 100+t lapse 10+t price 1 tier q/100' ; terms 0 ; fly 0 0 1 0 0 ; fly 0 0 1 0 0 ; brought 0 0 0 = 100 ; brought 1 0 0 = 101
            stands 0 9 0 0 = 201 ; stands 0 10 0 0 = 101 ; stands 0 11 0 0 = 0
            """);
        runs.edge("t for a FLY on the first DAY of a YEAR is by the YEAR ahead", """
            member 0 0 ; tape 'earn l+t lapse 9999 price 1 tier q/100' ; terms 0 ; 4 x days 100
            fly 0 359 200 0 0 ; fly 0 359 1 0 0 ; fly 0 360 1 0 0 ; brought 1 400 400 = 3 ; brought 2 400 400 = 3 ; withdraw 0 ; brought 2 400 400 = 1
            """);
    }

    private void stands() {
        String lot = "member 0 0 ; tape 'earn 100 lapse 50 price 1 tier 0' ; terms 0 ; fly 0 0 1 0 0\n";
        runs.edge("3 MILES that are there and LAPSE within WARN days", lot + """
            rule 2 10 ; stands 0 39 0 3 = 0 ; stands 0 40 0 3 = 100 ; stands 0 41 0 3 = 100 ; stands 0 49 0 3 = 100 ; stands 0 50 0 3 = 0 ; stands 0 51 0 3 = 0
            """);
        runs.edge("WARN 0, the least", lot + "rule 2 0 ; stands 0 49 0 3 = 0 ; stands 0 50 0 3 = 0 ; stands 0 49 0 0 = 100");
        runs.edge("WARN 1", lot + "rule 2 1 ; stands 0 48 0 3 = 0 ; stands 0 49 0 3 = 100 ; stands 0 50 0 3 = 0");
        runs.edge("WARN 999, the most", """
            member 0 0 ; tape 'earn 100 lapse 2000 price 1 tier 0' ; terms 0 ; fly 0 0 1 0 0 ; rule 2 999
            stands 0 1000 0 3 = 0 ; stands 0 1001 0 3 = 100 ; stands 0 1200 0 3 = 100 ; rule 2 998 ; stands 0 1001 0 3 = 0 ; stands 0 1002 0 3 = 100
            """);
        runs.edge("4 all that LAPSED till then", """
            member 0 0 ; tape 'earn l lapse 5 price 1 tier 0' ; terms 0 ; days 9 ; fly 0 0 100 0 0 ; fly 0 1 10 0 0 ; spend 0 1 30 0 ; fly 0 8 1 0 0
            stands 0 4 9 4 = 0 ; stands 0 5 9 4 = 70 ; stands 0 6 9 4 = 80 ; stands 0 12 9 4 = 80 ; stands 0 13 9 4 = 81 ; stands 0 1200 9 4 = 81
            """);
        runs.edge("0 MILES that are there: of that MEMBER alone", "member 0 0 ; member 0 0 ; pool 0 0 ; pool 1 0 ; fly 1 0 9 0 0 ; stands 0 0 0 0 = 0 ; stands 1 0 0 0 = 9");
        runs.edge("both 0 .. 1200", "member 0 0 ; stands 0 -1 0 0 = BAD ; stands 0 0 -1 0 = BAD ; stands 0 1201 0 0 = BAD ; stands 0 0 1201 0 = BAD ; stands 0 1200 1200 0 = 0 ; stands 0 0 0 0 = 0");
        runs.edge("what 0 .. 4", "member 3 0 ; stands 0 0 0 -1 = BAD ; stands 0 0 0 0 = 0 ; stands 0 0 0 4 = 0 ; stands 0 0 0 5 = BAD");
        runs.edge("BAD: no such MEMBER", "stands 0 0 0 0 = BAD ; member 0 0 ; stands -1 0 0 0 = BAD ; stands 1 0 0 0 = BAD");
    }

    private void brought() {
        runs.promise(16);
        runs.edge("NO: it is not KNOWN then, or about a later DAY", """
            member 0 0 ; days 5 ; fly 0 3 7 0 0 ; days 2 ; withdraw 0
            brought 0 2 6 = NO ; brought 0 3 6 = 7 ; brought 0 3 4 = NO ; brought 0 3 5 = 7 ; brought 0 3 7 = NO ; brought 0 2 7 = NO
            """);
        runs.edge("of several the one that stands first: BAD, then NO", """
            member 0 0 ; days 5 ; fly 0 5 7 0 0 ; brought 0 4 1201 = BAD ; brought 0 -1 5 = BAD ; brought 0 1201 4 = BAD ; brought 0 4 -1 = BAD ; brought 1 4 4 = BAD
            """);
        runs.edge("BAD: no such LINE", "brought 0 0 0 = BAD ; member 0 0 ; fly 0 0 7 0 0 ; brought -1 0 0 = BAD ; brought 1 0 0 = BAD ; brought 0 0 0 = 7");
        runs.edge("0: nothing", """
            member 0 0 ; member 0 0 ; tape 'earn 0 lapse 9 price 1 tier 0' ; terms 0 ; fly 0 0 7 0 0 ; spend 0 0 1 0 ; gift 0 0 1 1 ; back 1 0
            brought 0 0 0 = 0 ; brought 1 0 0 = 0 ; brought 2 0 0 = 0 ; brought 3 0 0 = 0
            """);
        runs.edge("MILES of a FLY, SPEND, GIFT, BACK", """
            member 0 0 ; member 0 0 ; fly 0 0 77 0 0 ; spend 0 0 5 0 ; gift 0 0 6 1 ; back 1 0 ; brought 0 0 0 = 77 ; brought 1 0 0 = 5 ; brought 2 0 0 = 6 ; brought 3 0 0 = 5
            """);
        runs.edge("for a DAY: what comes on later DAYS changes nothing in it", """
            member 0 0 ; days 5 ; fly 0 3 7 0 0 ; spend 0 4 7 0 ; back 1 5 ; brought 1 4 5 = 7 ; brought 1 5 5 = 7 ; stands 0 3 5 0 = 7 ; stands 0 4 5 0 = 0 ; stands 0 5 5 0 = 7
            """);
    }

    private void owes() {
        runs.promise(17);
        runs.edge("MADE there times its MADE rate / 1000, cut", """
            member 0 0 ; fly 0 0 99 1 0 ; owes 1 0 0 = 0 ; fly 0 0 1 1 0 ; owes 1 0 0 = 1 ; fly 0 0 99 1 0 ; owes 1 0 0 = 1 ; fly 0 0 1 1 0 ; owes 1 0 0 = 2
            """);
        runs.edge("less SPENT there times its GIVEN rate / 1000, cut", """
            member 0 0 ; fly 0 0 9999 0 0 ; spend 0 0 124 1 ; owes 1 0 0 = 0 ; spend 0 0 1 1 ; owes 1 0 0 = -1 ; spend 0 0 124 1 ; owes 1 0 0 = -1 ; spend 0 0 1 1 ; owes 1 0 0 = -2
            """);
        runs.edge("each cut towards 0", """
            member 0 0 ; fly 0 0 199 1 0 ; fly 0 0 9999 0 0 ; spend 0 0 130 1 ; owes 1 0 0 = 0 ; spend 0 0 110 1 ; owes 1 0 0 = 0 ; spend 0 0 10 1 ; owes 1 0 0 = -1
            """);
        runs.edge("SPENT may be below 0 never", "member 0 0 ; fly 0 0 1000 0 0 ; spend 0 0 1000 1 ; back 1 0 ; back 1 0 ; owes 1 0 0 = 0 ; withdraw 1 ; owes 1 0 0 = 0");
        runs.edge("A PARTNER (1 .. 3); of the club nothing counts", """
            member 0 0 ; fly 0 0 1000 0 0 ; fly 0 0 2000 3 0 ; spend 0 0 1000 0 ; owes 0 0 0 = BAD ; owes -1 0 0 = BAD ; owes 4 0 0 = BAD
            owes 1 0 0 = 0 ; owes 2 0 0 = 0 ; owes 3 0 0 = 20
            """);
        runs.edge("for a DAY AS KNOWN on another one", """
            member 0 0 ; days 5 ; fly 0 3 1000 1 0 ; owes 1 2 5 = 0 ; owes 1 3 5 = 10 ; owes 1 3 4 = 0 ; owes 1 1200 1200 = 10
            owes 1 -1 0 = BAD ; owes 1 0 -1 = BAD ; owes 1 1201 0 = BAD ; owes 1 0 1201 = BAD
            """);
        runs.edge("what LAPSED was MADE all the same", "member 0 0 ; fly 0 0 1000 1 0 ; owes 1 720 0 = 10 ; owes 1 1200 0 = 10");
        runs.edge("rates as they are now, for any DAY", "member 0 0 ; fly 0 0 1000 1 0 ; days 9 ; rate 1 0 0 ; owes 1 0 0 = 0 ; rate 1 0 1 ; owes 1 0 0 = 1 ; rate 1 0 999 ; owes 1 0 0 = 999");
        runs.edge("what would not fit into an int on the way", """
            member 0 0 ; tape 'earn 99999 lapse 9 price 1 tier 0' ; terms 0 ; 50 x fly 0 0 1 2 0
            50 x spend 0 0 99999 1
            rate 1 1 999 ; rate 2 0 999 ; owes 1 0 0 = -4994950 ; owes 2 0 0 = 4994950
            """);
    }

    private void rate() {
        runs.promise(18);
        runs.edge("MADE and GIVEN 0 .. 999; 10 and 8 at first", """
            rate 1 0 -1 = BAD ; rate 1 0 1000 = BAD ; rate 1 0 0 = 10 ; rate 1 0 1 = 0 ; rate 1 0 999 = 1 ; rate 1 0 5 = 999
            rate 1 1 -1 = BAD ; rate 1 1 1000 = BAD ; rate 1 1 0 = 8 ; rate 1 1 1 = 0 ; rate 1 1 999 = 1 ; rate 1 1 5 = 999
            rate 2 0 5 = 10 ; rate 2 1 5 = 8 ; rate 3 0 5 = 10 ; rate 3 1 5 = 8
            """);
        runs.edge("of a PARTNER (1 .. 3)", "rate 0 0 5 = BAD ; rate 0 1 5 = BAD ; rate -1 0 5 = BAD ; rate 4 0 5 = BAD ; rate 1 0 5 = 10 ; rate 3 0 5 = 10");
        runs.edge("MADE (which 0), GIVEN (1)", "rate 1 -1 5 = BAD ; rate 1 2 5 = BAD ; rate 1 0 6 = 10 ; rate 1 1 7 = 8 ; rate 1 0 1 = 6 ; rate 1 1 1 = 7");
        runs.edge("a rate counts for its own side", """
            member 0 0 ; fly 0 0 1000 1 0 ; spend 0 0 1000 1 ; rate 1 0 0 ; owes 1 0 0 = -8 ; rate 1 1 0 ; owes 1 0 0 = 0 ; rate 1 0 999 ; owes 1 0 0 = 999 ; rate 1 1 999 ; owes 1 0 0 = 0
            """);
    }
}
