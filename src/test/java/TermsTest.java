/** Promises 19 to 21: the tape, the words of TERMS, their faults, what they give, from when they are in force. */
public final class TermsTest {
    private static final int BAD = MilesHall.BAD, NO = MilesHall.NO, FULL = MilesHall.FULL;
    private static final Due due = new Due("TermsTest");

    public static void main(String[] args) {
        tape();
        usedUp();
        counts();
        faults();
        nesting();
        oneBehindAnother();
        notice();
        gives();
        names();
        held();
        inForce();
        tierAtFly();
        due.end();
    }

    private static void tape() {
        MilesHall x = new MilesHall();
        for (int i = 1; i <= 11; i++) {
            due.is("feed " + i, x.feed(-1, 0, Integer.MIN_VALUE), 12 * i);
        }
        due.is("feed 12", x.feed(0, 0, 0), FULL);
        due.is("trim(133)", x.trim(133), BAD);
        due.is("trim(-1)", x.trim(-1), BAD);
        due.is("trim(132)", x.trim(132), 132);
        due.is("trim(121)", x.trim(121), 121);
        due.is("feed over it", x.feed(0, 0, 0), FULL);
        due.is("trim(120)", x.trim(120), 120);
        due.is("feed to it", x.feed(0, 0, 0), 132);
        due.is("trim(0)", x.trim(0), 0);
        due.is("trim(1)", x.trim(1), BAD);
        due.is("count(9)", x.count(9), 0);
    }

    private static void usedUp() {
        MilesHall x = new MilesHall();
        int[] days = {-1, 1201, 1, 0, 30};
        int[] answers = {BAD, BAD, NO, -100, -100};
        for (int i = 0; i < days.length; i++) {
            x.feed(0, 0, 0);
            due.is("terms(" + days[i] + ")", x.terms(days[i]), answers[i]);
            due.is("used up", x.count(9), 0);
        }
        due.is("terms(0) of no tape", x.terms(0), -100);
        due.is("count(3)", x.count(3), 0);
    }

    private static void told(String text, int want) {
        MilesHall x = new MilesHall();
        due.is("terms of '" + text + "'", Due.terms(x, text, 0), want);
        due.is("count(3) of '" + text + "'", x.count(3), want >= 0 ? 1 : 0);
    }

    private static void counts() {
        told("earn 1 lapse 2 price 3 tier 4", 4);
        told("  earn 1 lapse 2 price 3 tier 4  ", 4);
        told("earn(l)lapse(t)price(l)tier(q)", 4);
        told("earn l*f+p-c/t|k lapse t&k price l<f|o>d&t=k tier !q", 15);
        told("earn 00001 lapse 99999 price!!1 tier (((q)))", 4);
        told("earn l < f lapse ( 1 < 2 ) < 3 price 1 tier 1", 7);
        told("earn 1<2&2<3|4=5 lapse 1 price 1 tier 1", 9);
    }

    private static void faults() {
        told("", -100);
        told("   ", -103);
        told("lapse 1", -100);
        told(" Earn 1", -101);
        told("earnl lapse 1 price 1 tier 1", -100);
        told("earn", -104);
        told("earn ", -105);
        told("earn 1", -106);
        told("earn1 lapse 1 price 1 tier 1", -104);
        told("earn 1lapse 1 price 1 tier 1", -106);
        told("earn 1 lapse 1price 1 tier 1", -114);
        told("earn l lapse 1 price l tier 1t", -129);
        told("earn 123456 lapse 1 price 1 tier 1", -105);
        told("earn 12345 6 lapse 1 price 1 tier 1", -111);
        told("earn q lapse 1 price 1 tier q", -105);
        told("earn o lapse 1 price 1 tier q", -105);
        told("earn d lapse 1 price 1 tier q", -105);
        told("earn 1 lapse l price 1 tier q", -113);
        told("earn 1 lapse q price 1 tier q", -113);
        told("earn 1 lapse 1 price p tier q", -121);
        told("earn 1 lapse 1 price c tier q", -121);
        told("earn 1 lapse 1 price 1 tier t", -128);
        told("earn 1 lapse 1 price 1 tier k", -128);
        told("earn ll lapse 1 price 1 tier q", -105);
        told("earn l f lapse 1 price 1 tier q", -107);
        told("earn l+ lapse 1 price 1 tier q", -108);
        told("earn +l lapse 1 price 1 tier q", -105);
        told("earn l++l lapse 1 price 1 tier q", -107);
        told("earn l<f<p lapse 1 price 1 tier q", -108);
        told("earn l<f=p lapse 1 price 1 tier q", -108);
        told("earn (l lapse 1 price 1 tier q", -108);
        told("earn l) lapse 1 price 1 tier q", -106);
        told("earn () lapse 1 price 1 tier q", -106);
        told("earn l! lapse 1 price 1 tier q", -106);
        told("earn l%f lapse 1 price 1 tier q", -106);
        told("earn l\tlapse 1 price 1 tier q", -106);
        told("earn l\u00e1 lapse 1 price 1 tier q", -106);
        told("earn L lapse 1 price 1 tier q", -105);
        told("earn 1 price 1 tier q", -107);
        told("earn 1 lapse 1 price 1 tier q tier q", -130);
        told("earn 1 lapse 1 price 1 tier q q", -130);
        told("earn 1 lapse 1 price 1 tier", -127);
        told("earn 1 lapse 1 price 1 tier q+", -130);
        told("earn 1 lapse 1 price 1 tier q+ ", -131);
        told("earn 1 lapse 1 price 1 tier (q", -130);
    }

    private static String times(String text, int n) {
        return text.repeat(n);
    }

    private static void nesting() {
        String rest = " lapse 1 price 1 tier 1";
        told("earn " + times("(", 8) + "1" + times(")", 8) + rest, 4);
        told("earn " + times("(", 9) + "1" + times(")", 9) + rest, -113);
        told("earn " + times("!", 8) + "1" + rest, 4);
        told("earn " + times("!", 9) + "1" + rest, -113);
        told("earn " + times("!(", 8) + "1" + times(")", 8) + rest, 4);
        told("earn " + times("!(", 8) + "!1" + times(")", 8) + rest, -121);
        told("earn " + times("!(", 8) + "(1)" + times(")", 8) + rest, -121);
        told("earn " + times("!1+", 12) + "1" + rest, 16);
        told("earn " + times("(1)+", 12) + "1" + rest, 16);
        told("earn " + times("!", 8) + "1+" + times("!", 9) + "1" + rest, -123);
        told("earn " + times("(", 8) + "1" + times(")", 8) + "+" + times("(", 8) + "1" + times(")", 8) + rest, 5);
        told("earn " + times("(", 7) + "!(" + "1" + times(")", 8) + rest, 4);
    }

    /** A text is read as if no other had been read ahead of it. */
    private static void oneBehindAnother() {
        MilesHall x = new MilesHall();
        x.member(0, 0);
        String open = "earn " + times("(", 8);
        String long1 = "earn " + times("!", 8) + times("1+", 40);
        String deep = "earn " + times("!(", 8) + "0" + times(")", 8) + "+4 lapse 9 price 1 tier 1";
        x.keep();
        for (int i = 0; i < 6; i++) {
            due.is("open parentheses", Due.terms(x, open, 0), -100 - open.length());
            due.is("open signs", Due.terms(x, "earn " + times("!", 8), 0), -113);
            due.is("a long one", Due.terms(x, long1, 0), -100 - long1.length());
            due.is("a number", Due.terms(x, "earn 1", 0), -106);
            due.is("a deep one", Due.terms(x, deep, 0), 5);
            x.fly(0, 0, 1, 0, 0);
            due.is("what it gives", x.brought(0, 0, 0), 4);
            x.again();
        }
    }

    private static void notice() {
        String text = "earn 1 lapse 1 price 1 tier 1";
        MilesHall x = new MilesHall();
        due.is("day 0 while it is 0", Due.terms(x, text, 0), 4);
        due.is("a day too soon", Due.terms(x, text, 29), NO);
        due.is("too soon is asked ahead of faults", Due.terms(x, "", 29), NO);
        due.is("in time", Due.terms(x, text, 30), 4);
        x.days(1);
        due.is("day 0 later", Due.terms(x, text, 0), NO);
        due.is("a day too soon again", Due.terms(x, text, 30), NO);
        x.rule(0, 0);
        due.is("yesterday", Due.terms(x, text, 0), NO);
        due.is("today without notice", Due.terms(x, text, 1), 4);
        due.is("day 1200", Due.terms(x, text, 1200), 4);
        due.is("the fifth", Due.terms(x, text, 1200), FULL);
        due.is("a faulty fifth", Due.terms(x, "earn", 1200), -104);
        due.is("a fifth too soon", Due.terms(x, text, 0), NO);
        due.is("day 1201", Due.terms(x, text, 1201), BAD);
        due.is("count(3)", x.count(3), 4);
    }

    private static void earns(String e, int want) {
        MilesHall x = new MilesHall();
        x.member(0, 0);
        Due.terms(x, "earn " + e + " lapse 1 price 1 tier 0", 0);
        x.fly(0, 0, 7, 23, 5);
        due.is("earn " + e, x.brought(0, 0, 0), want);
    }

    private static void gives() {
        earns("2+3*4", 14);
        earns("(2+3)*4", 20);
        earns("20-5-4", 11);
        earns("100/7/2", 7);
        earns("100/7*2", 28);
        earns("7/0+3", 3);
        earns("0-7/2+10", 7);
        earns("(0-7)/2+10", 7);
        earns("(0-8)/(0-3)", 2);
        earns("1<2", 1);
        earns("2<1", 0);
        earns("2<2", 0);
        earns("2=2", 1);
        earns("2=3", 0);
        earns("3>2", 1);
        earns("2>3", 0);
        earns("2>2", 0);
        earns("5&7", 1);
        earns("5&0", 0);
        earns("0|0", 0);
        earns("0|9", 1);
        earns("5|0&0", 1);
        earns("1|1&0", 1);
        earns("0-1<0", 1);
        earns("1+1=2", 1);
        earns("1<2&2<3", 1);
        earns("!0", 1);
        earns("!5", 0);
        earns("!!5", 1);
        earns("!0*8", 8);
        earns("!(1&0)+4", 5);
        earns("99999*99999/99999", 14098);
        earns("99999*30000", 0);
        earns("99999*30000/(0-99999)", 12950);
        earns("0-32768*65536/(0-1)/32768", 65536);
        earns("32768*65536-1>0", 1);
        earns("(l>5)*100+(c<6)*20+p", 123);
    }

    /** What earns gives for texts that are faulty is what a FLY brings without TERMS: its LEG. */
    private static void names() {
        earns("l", 7);
        earns("f", 2);
        earns("p", 3);
        earns("c", 5);
        earns("t+9", 9);
        earns("k+9", 9);
        for (int kind = 0; kind < 4; kind++) {
            MilesHall x = new MilesHall();
            x.member(kind, 0);
            Due.terms(x, "earn k*100+t*10+1 lapse k*10+t+1 price k*100+t*10+l+f+o+d tier 2", 0);
            x.fly(0, 0, 5, 0, 0);
            due.is("kind and tier of " + kind, x.brought(0, 0, 0), kind * 100 + 21);
            int life = kind == 1 ? 9999 : kind * 10 + 3;
            due.is("there, kind " + kind, x.stands(0, Math.min(1200, life - 1), 0, 0), kind * 100 + 21);
            due.is("lapsed, kind " + kind, x.stands(0, Math.min(1200, life), 0, 4), kind == 1 ? 0 : kind * 100 + 21);
            Due.terms(x, "earn 999 lapse 999 price k*100+t*10+l*2+f+o*3+d*5 tier 2", 0);
            x.flight(4, 6, 1, 2);
            x.ask(0, 0, 3);
            due.is("settle", x.settle(0), 1);
            due.is("the price of kind " + kind, x.asked(0, 4), kind * 100 + 20 + 12 + 3 + 6 + 20);
        }
    }

    private static void held() {
        MilesHall x = new MilesHall();
        x.member(0, 0);
        Due.terms(x, "earn l*100 lapse 0-1 price 0 tier q", 0);
        x.fly(0, 0, 9999, 0, 0);
        due.is("earn at most", x.brought(0, 0, 0), 99999);
        due.is("tier at most", x.stands(0, 0, 0, 2), 3);
        due.is("life at least", x.stands(0, 1, 0, 4), 99999);
        due.is("life at least, ahead", x.stands(0, 0, 0, 0), 99999);
        Due.terms(x, "earn 0-5 lapse 99999 price 0 tier 0-1", 0);
        due.is("earn at least", x.brought(0, 0, 0), 0);
        due.is("tier at least", x.stands(0, 0, 0, 2), 0);
        due.is("points of nothing", x.stands(0, 0, 0, 1), 0);
        Due.terms(x, "earn 50 lapse 99999 price 0 tier 1", 0);
        due.is("life at most", x.stands(0, 1200, 0, 0), 50);
    }

    private static void inForce() {
        MilesHall x = new MilesHall();
        x.member(0, 0);
        x.rule(0, 0);
        Due.terms(x, "earn 2 lapse 999 price 1 tier 1", 20);
        for (int day = 0; day < 50; day += 10) {
            x.fly(0, day, 9, 0, 0);
            x.days(10);
        }
        due.is("none in force", x.brought(0, 50, 50), 9);
        due.is("none in force on 10", x.brought(1, 50, 50), 9);
        due.is("from its day on", x.brought(2, 50, 50), 2);
        due.is("and later", x.brought(4, 50, 50), 2);
        due.is("no tier yet", x.stands(0, 19, 50, 2), 0);
        due.is("tier", x.stands(0, 20, 50, 2), 1);
        Due.terms(x, "earn 3 lapse 999 price 1 tier 2", 60);
        Due.terms(x, "earn 4 lapse 999 price 1 tier 3", 55);
        due.is("tier of 54", x.stands(0, 54, 50, 2), 1);
        due.is("tier of 55", x.stands(0, 55, 50, 2), 3);
        due.is("tier of 60", x.stands(0, 60, 50, 2), 2);
        Due.terms(x, "earn 5 lapse 999 price 1 tier 0", 60);
        due.is("of several those told last", x.stands(0, 60, 50, 2), 0);
        x.days(10);
        x.fly(0, 60, 9, 0, 0);
        due.is("brought by those", x.brought(5, 60, 60), 5);
    }

    /** TIER for a FLY is by POINTS ahead of it, for its LIFE, too. */
    private static void tierAtFly() {
        MilesHall x = new MilesHall();
        x.member(0, 0);
        Due.terms(x, "earn 100+t lapse 10+t price 1 tier q/100", 0);
        x.fly(0, 0, 1, 0, 0);
        x.fly(0, 0, 1, 0, 0);
        x.fly(0, 0, 1, 0, 0);
        due.is("first", x.brought(0, 0, 0), 100);
        due.is("second", x.brought(1, 0, 0), 101);
        due.is("third", x.brought(2, 0, 0), 102);
        due.is("first's life", x.stands(0, 10, 0, 4), 100);
        due.is("second's life", x.stands(0, 11, 0, 4), 201);
        due.is("third's life", x.stands(0, 12, 0, 4), 303);
    }
}
