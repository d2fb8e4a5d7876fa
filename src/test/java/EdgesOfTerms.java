/** Promises 19 to 21: THE TAPE, the words of TERMS and their faults, what an E gives, from when on TERMS are in force. */
final class EdgesOfTerms {
    private static final String PLAIN = "earn 1 lapse 1 price 1 tier 1";
    private static final String REST = " lapse 1 price 1 tier 1";

    private final Runs runs;

    EdgesOfTerms(Runs runs) {
        this.runs = runs;
    }

    void all() {
        feed();
        trim();
        runs.promise(21);
        refusals();
        notice();
        four();
        length();
        words();
        blanks();
        everyByte();
        numbers();
        names();
        grammar();
        openWithinOneAnother();
        tooSoon();
        ints();
        divided();
        tests();
        loosestFirst();
        inForce();
        oneBehindAnother();
    }

    private void told(String sentence, String text, int want) {
        runs.edge(sentence + " '" + text + "'", "tape '" + escaped(text) + "' ; terms 0 = " + want + " ; count 3 = " + (want < 0 ? 0 : 1) + " ; count 9 = 0");
    }

    private static String escaped(String text) {
        StringBuilder out = new StringBuilder();
        for (char c : text.toCharArray()) {
            boolean plain = c == ' ' || c >= 'a' && c <= 'z' || c >= '0' && c <= '9';
            out.append(plain ? String.valueOf(c) : String.format("%%%02x", (int) c));
        }
        return out.toString();
    }

    /** What E of earn gives for a LEG of 7, CLASS 2, PARTNER 3, 5 COINS; E gives 0 .. 99999. */
    private void earns(String sentence, String e, int want) {
        runs.edge(sentence + " '" + e + "'", "member 0 0 ; tape 'earn " + e + REST + "' ; terms 0 = ok ; fly 0 0 7 23 5 = 0 ; brought 0 0 0 = " + want);
    }

    private void feed() {
        runs.promise(19);
        runs.edge("FULL: it would have more than 132", """
            feed 0 0 0 = 12 ; 9 x feed 0 0 0 ; count 9 = 120 ; feed 1 2 3 = 132 ; feed 1 2 3 = FULL ; count 9 = 132
            trim 121 = 121 ; feed 0 0 0 = FULL ; count 9 = 121 ; trim 120 = 120 ; feed 0 0 0 = 132 ; trim 131 = 131 ; feed 0 0 0 = FULL
            """);
        runs.edge("just below: from 119 it goes to 131", "10 x feed 0 0 0 ; trim 119 = 119 ; feed 0 0 0 = 131 ; feed 0 0 0 = FULL");
        runs.edge("the highest of each number first", "feed 0x6561726e 0x20312b31 0x20322020 = 12 ; terms 0 = -109");
        runs.edge("Twelve bytes, of numbers below 0, too", "feed -1 MIN MAX = 12 ; terms 0 = -100 ; feed 0x6561726e 0x20312020 -1 = 12 ; terms 0 = -108");
        runs.edge("behind what is there", "feed 0x20202020 0x20202020 0x20206561 = 12 ; feed 0x726e2031 0x20202020 0x20202029 = 24 ; terms 0 = -123");
    }

    private void trim() {
        runs.promise(20);
        runs.edge("BAD: n is not 0 .. what it has", """
            trim -1 = BAD ; trim 1 = BAD ; trim 0 = 0 ; feed 0 0 0 ; trim 13 = BAD ; trim -1 = BAD ; trim 12 = 12 ; trim 11 = 11 ; trim 12 = BAD ; count 9 = 11
            trim 0 = 0 ; trim 1 = BAD ; trim MIN = BAD ; trim MAX = BAD
            """);
        runs.edge("when it is full", "11 x feed 0 0 0 ; trim 133 = BAD ; trim 132 = 132 ; trim 0 = 0 ; count 9 = 0");
        runs.edge("keeps its first n bytes", "tape '" + PLAIN + "xyz' ; trim 29 = 29 ; terms 0 = 4");
        runs.edge("what was cut off is gone", "tape 'earn 11111' ; trim 6 = 6 ; feed 0x2b31206c 0x61707365 0x20322020 = 18 ; terms 0 = -118");
    }

    private void refusals() {
        runs.edge("BAD: day (0 .. 1200)", "tape '" + PLAIN + "' ; terms -1 = BAD ; tape '" + PLAIN + "' ; terms 1201 = BAD ; tape '" + PLAIN + "' ; terms 1200 = 4 ; tape '" + PLAIN + "' ; terms 0 = 4");
        runs.edge("BAD: the farthest ints", "terms MIN = BAD ; terms MAX = BAD");
        runs.edge("uses it up, whatever it answers: BAD", "tape '" + PLAIN + "' ; terms -1 = BAD ; count 9 = 0 ; terms 0 = -100");
        runs.edge("uses it up, whatever it answers: NO", "tape '" + PLAIN + "' ; terms 1 = NO ; count 9 = 0 ; terms 0 = -100");
        runs.edge("uses it up, whatever it answers: a fault", "tape 'earn' ; terms 0 = -104 ; count 9 = 0 ; terms 0 = -100");
        runs.edge("uses it up, whatever it answers: TERMS", "tape '" + PLAIN + "' ; terms 0 = 4 ; count 9 = 0 ; terms 0 = -100");
        String full = ("tape '" + PLAIN + "' ; terms 0 ;").repeat(4);
        runs.edge("uses it up, whatever it answers: FULL", full + "tape '" + PLAIN + "' ; terms 0 = FULL ; count 9 = 0");
        runs.edge("BAD is asked first, ahead of NO, a fault and FULL", full + "terms -1 = BAD ; terms 1201 = BAD");
        runs.edge("NO ahead of a fault and FULL", full + "terms 29 = NO ; tape '" + PLAIN + "' ; terms 29 = NO");
        runs.edge("a fault ahead of FULL", full + "terms 0 = -100 ; tape 'earn 1 lapse' ; terms 30 = -112");
    }

    private void notice() {
        String fed = "tape '" + PLAIN + "'\n";
        runs.edge("NOTICE days or more behind TODAY", fed + "terms 29 = NO\n" + fed + "terms 30 = 4\n" + fed + "terms 31 = 4");
        runs.edge("NOTICE days or more behind another TODAY", "days 7\n" + fed + "terms 36 = NO\n" + fed + "terms 37 = 4\n" + fed + "terms 38 = 4");
        runs.edge("from DAY 0 on (while TODAY is 0)", fed + "terms 0 = 4\n" + fed + "terms 1 = NO ; days 1\n" + fed + "terms 0 = NO\n" + fed + "terms 1 = NO");
        runs.edge("NOTICE 0", "rule 0 0\n" + fed + "terms 0 = 4\n" + fed + "terms 1 = 4 ; days 5\n" + fed + "terms 4 = NO\n" + fed + "terms 0 = NO\n" + fed + "terms 5 = 4");
        runs.edge("NOTICE 360", "rule 0 360\n" + fed + "terms 359 = NO\n" + fed + "terms 360 = 4\n" + fed + "terms 0 = 4");
        runs.edge("NOTICE beyond the last DAY", "12 x days 100 ; rule 0 1\n" + fed + "terms 1200 = NO ; rule 0 0\n" + fed + "terms 1199 = NO\n" + fed + "terms 1200 = 4");
        runs.edge("just to the last DAY", "11 x days 100 ; days 70\n" + fed + "terms 1199 = NO\n" + fed + "terms 1200 = 4");
        runs.edge("again() to DAY 0 is DAY 0", "keep ; days 1\n" + fed + "terms 0 = NO ; again = 0\n" + fed + "terms 0 = 4");
    }

    private void four() {
        String fed = "tape '" + PLAIN + "' ; terms 0";
        runs.edge("TERMS (4 at most)", fed + " = 4\n" + fed + " = 4\n" + fed + " = 4 ; count 3 = 3\n" + fed + " = 4 ; count 3 = 4\n" + fed + " = FULL ; count 3 = 4");
        runs.edge("an IMAGE with fewer makes room", "keep\n" + (fed + "\n").repeat(4) + fed + " = FULL ; again\n" + fed + " = 4 ; count 3 = 1");
    }

    private void length() {
        String longest = "earn " + "1+".repeat(51) + "1" + REST;
        told("132 bytes at most: 131", longest, 55);
        told("132 bytes at most: 132", longest + " ", 55);
        told("132 bytes at most: 132 without a blank", "earn " + "1+".repeat(51) + "11" + REST, 55);
        told("132 bytes that are not enough", "earn " + "1+".repeat(63) + "1", -232);
        told("132 bytes that are no TEXT", " ".repeat(132), -232);
        told("132 bytes with a fault in the last", "earn 1" + " ".repeat(103) + "lapse 1 price 1 tier 1)".substring(0, 23), -231);
        told("a TEXT behind many blanks", " ".repeat(103) + PLAIN, 4);
        told("nothing at all", "", -100);
        told("one byte", "e", -100);
        told("one blank", " ", -101);
    }

    private void words() {
        told("earn E lapse E price E tier E", PLAIN, 4);
        told("in that order alone", "lapse 1 earn 1 price 1 tier 1", -100);
        told("in that order alone", "earn 1 price 1 lapse 1 tier 1", -107);
        told("in that order alone", "earn 1 lapse 1 tier 1 price 1", -115);
        told("in that order alone", "earn 1 lapse 1 price 1 earn 1", -123);
        told("each once", "earn 1 earn 1 lapse 1 price 1 tier 1", -107);
        told("each once", PLAIN + " tier 1", -130);
        told("each once", PLAIN + " earn 1", -130);
        told("none is missing", "lapse 1 price 1 tier 1", -100);
        told("none is missing", "earn 1 lapse 1 tier 1", -115);
        told("none is without an E", "earn lapse 1 price 1 tier 1", -105);
        told("none is without an E", "earn 1 lapse price 1 tier 1", -113);
        told("a word is as long as it goes", "earns 1", -100);
        told("a word is as long as it goes", "ear 1", -100);
        told("a word is as long as it goes", "earn 1 lapses 1", -107);
        told("a word is as long as it goes", "earn 1 laps 1", -107);
        told("a word is as long as it goes", "earn lf lapse 1", -105);
        told("a word is as long as it goes", "earn llapse 1", -105);
        told("a .. z alone are letters", "Earn 1", -100);
        told("a .. z alone are letters", "earN 1", -100);
        told("a word right behind another one needs a blank", "earn1" + REST, -104);
        told("a word right behind another one needs a blank", "earn 1lapse 1 price 1 tier 1", -106);
        told("a word right behind another one needs a blank", "earn 1 lapse1 price 1 tier 1", -112);
        told("a word right behind another one needs a blank", "earn l1" + REST, -106);
        told("a word right behind another one needs a blank", "earn 1l" + REST, -106);
        told("a word right behind another one needs a blank", "earn 1 lapse 1 price 1 tier1", -127);
        told("a word right behind another one needs a blank", "1earn 1" + REST, -100);
        told("a word right behind a sign needs none", "earn(1)lapse(1)price(1)tier(1)", 4);
        told("a word right behind a sign needs none", "earn!1 lapse!1 price!1 tier!1", 4);
        told("a word right ahead of a sign needs none", "earn l+l*l lapse t|k price o<d tier q", 8);
        told("more behind the last E", PLAIN + " 1", -130);
        told("more behind the last E", PLAIN + ")", -129);
        told("more behind the last E", PLAIN + "!", -129);
        told("more behind the last E", PLAIN + "(", -129);
        for (String word : new String[] {"earn", "lapse", "price", "tier"}) {
            for (int i = 0; i < word.length(); i++) {
                String wrong = word.substring(0, i) + "z" + word.substring(i + 1);
                told("no other word", PLAIN.replace(word, wrong), -100 - PLAIN.indexOf(word));
            }
        }
        told("a sign ahead of all", "(earn 1", -100);
        told("a sign ahead of all", "+", -100);
    }

    private void blanks() {
        told("Between words and signs, and at the ends, there may be blanks", "  earn  (  1  +  l  )  *  !  2  lapse  1  price  1  tier  1  ", 6);
        told("not within a word", "ea rn 1", -100);
        told("not within a NUMBER", "earn 1 2" + REST, -107);
        told("blanks (byte 32) alone", "earn\t1" + REST, -104);
        told("blanks (byte 32) alone", "earn 1\n" + REST, -106);
        told("blanks (byte 32) alone", PLAIN + "\0", -129);
        told("blanks (byte 32) alone", "\u00a0" + PLAIN, -100);
    }

    /** Every byte between two NUMBERS and as the first of a PART. */
    private void everyByte() {
        for (int b = 0; b < 256; b++) {
            char c = (char) b;
            boolean digit = c >= '0' && c <= '9';
            boolean letter = c >= 'a' && c <= 'z';
            int between = "+-*/<=>&|".indexOf(c) >= 0 ? 5 : digit ? 4 : c == ' ' ? -107 : -106;
            told("byte " + b + " between NUMBERS", "earn 1" + c + "1" + REST, between);
            int first = digit || c == ' ' || c == '!' ? 4 : c == '(' ? -108 : letter && "lfpctk".indexOf(c) >= 0 ? -106 : -105;
            told("byte " + b + " as the first of a PART", "earn " + c + "1" + REST, first);
        }
    }

    private void numbers() {
        told("NUMBER (1 to 5 digits)", "earn 0" + REST, 4);
        told("NUMBER (1 to 5 digits)", "earn 9999" + REST, 4);
        told("NUMBER (1 to 5 digits)", "earn 99999" + REST, 4);
        told("NUMBER (1 to 5 digits)", "earn 100000" + REST, -105);
        told("digits that are 0 count, too", "earn 00000" + REST, 4);
        told("digits that are 0 count, too", "earn 000000" + REST, -105);
        told("a NUMBER of more than 5 digits, the last of all", "earn 1 lapse 1 price 1 tier 123456", -128);
        told("a NUMBER of very many digits", "earn " + "9".repeat(120), -105);
        earns("a NUMBER is what its digits say", "00012", 12);
        earns("a NUMBER is what its digits say", "99999", 99999);
        earns("a NUMBER is what its digits say", "10203", 10203);
    }

    private void names() {
        String[] parts = {"earn ", " lapse ", " price ", " tier "};
        String[] names = {"lfpctk", "tk", "lfodtk", "q"};
        for (int part = 0; part < 4; part++) {
            for (char c = 'a'; c <= 'z'; c++) {
                StringBuilder text = new StringBuilder();
                int place = 0;
                for (int i = 0; i < 4; i++) {
                    place = i == part ? text.length() + parts[i].length() : place;
                    text.append(parts[i]).append(i == part ? c : '1');
                }
                told("NAMES, each one letter:", text.toString(), names[part].indexOf(c) >= 0 ? 4 : -100 - place);
            }
        }
        earns("l LEG", "l", 7);
        earns("f CLASS", "f", 2);
        earns("p PARTNER", "p", 3);
        earns("c COINS", "c", 5);
        for (int how : new int[] {0, 1, 3, 10, 13, 20, 23, 30, 33}) {
            runs.edge("f CLASS, p PARTNER of " + how, "member 0 0 ; tape 'earn f*100+p+1" + REST + "' ; terms 0 ; fly 0 0 7 " + how + " 0 ; brought 0 0 0 = " + (how / 10 * 100 + how % 10 + 1));
        }
        for (int kind = 0; kind < 4; kind++) {
            runs.edge("t TIER, k KIND of the MEMBER, " + kind, "member " + kind + " 0 ; tape 'earn 10*k+t lapse 10*k+t+5 price 1 tier 2' ; terms 0 ; fly 0 0 1 0 0 ; brought 0 0 0 = " + (10 * kind + 2)
                + (kind == 1 ? "\nstands 0 1200 0 0 = 12" : "\nstands 0 " + (10 * kind + 6) + " 0 4 = 0 ; stands 0 " + (10 * kind + 7) + " 0 4 = " + (10 * kind + 2)));
        }
        told("how many NUMBERS and NAMES they have", "earn l+l+1 lapse t price l*(f+o)-!d tier q", 9);
        told("the least of them", "earn(1)lapse(1)price(1)tier(1)", 4);
    }

    private void grammar() {
        for (String sign : new String[] {"|", "&", "+", "-", "*", "/"}) {
            told("as many " + sign + " as one likes", "earn 1" + sign + "1" + sign + "1" + REST, 6);
            told("a sign wants a PART behind it", "earn 1" + sign + REST, -108);
            told("a sign wants a PART ahead of it", "earn " + sign + "1" + REST, -105);
            told("a sign twice", "earn 1" + sign + sign + "1" + REST, -107);
            told("a sign within parentheses", "earn (1" + sign + ")" + REST, -108);
        }
        for (String sign : new String[] {"<", "=", ">"}) {
            told("TEST: one of < = > at most", "earn 1" + sign + "1" + REST, 5);
            for (String other : new String[] {"<", "=", ">"}) {
                told("TEST: one of < = > at most", "earn 1" + sign + "1" + other + "1" + REST, -108);
                told("TEST: one of < = > at most, of sums", "earn 1+1" + sign + "1*1" + other + "1" + REST, -112);
                told("another TEST behind &", "earn 1" + sign + "1&1" + other + "1" + REST, 7);
                told("another TEST behind |", "earn 1" + sign + "1|1" + other + "1" + REST, 7);
                told("another TEST within parentheses", "earn 1" + sign + "(1" + other + "1)" + REST, 6);
                told("another TEST behind parentheses", "earn (1" + sign + "1)" + other + "1" + REST, 6);
                told("no sign of two bytes", "earn 1" + sign + other + "1" + REST, -107);
            }
            told("a test wants a SUM behind it", "earn 1" + sign + REST, -108);
            told("a test wants a SUM ahead of it", "earn " + sign + "1" + REST, -105);
        }
        told("( E )", "earn (1)" + REST, 4);
        told("( E ) of nothing", "earn ()" + REST, -106);
        told("( E ) that is not ended", "earn (1" + REST, -108);
        told("( E ) that is not begun", "earn 1)" + REST, -106);
        told("( E ) ended twice", "earn (1))" + REST, -108);
        told("( E ) right behind a PART", "earn 1(1)" + REST, -106);
        told("( E ) right behind ( E )", "earn (1)(1)" + REST, -108);
        told("a NUMBER right behind ( E )", "earn (1)1" + REST, -108);
        told("! PART", "earn !1" + REST, 4);
        told("! without a PART", "earn !" + REST, -107);
        told("! behind a PART", "earn 1!" + REST, -106);
        told("! behind a PART, with one of its own", "earn 1!1" + REST, -106);
        told("! of a sign", "earn !+1" + REST, -106);
        told("! behind a sign", "earn 1+!1" + REST, 5);
        told("an E does not end in the next one's word", "earn (1 lapse 1) price 1 tier 1", -108);
    }

    private void openWithinOneAnother() {
        for (int n = 7; n <= 10; n++) {
            told("the ninth (", "earn " + "(".repeat(n) + "1" + ")".repeat(n) + REST, n <= 8 ? 4 : -113);
            told("the ninth !", "earn " + "!".repeat(n) + "1" + REST, n <= 8 ? 4 : -113);
            told("the ninth ( with blanks", "earn " + "( ".repeat(n) + "1" + " )".repeat(n) + REST, n <= 8 ? 4 : -121);
            told("the ninth ( behind signs", "earn " + "(1+".repeat(n) + "1" + ")".repeat(n) + REST, n <= 8 ? 4 + n : -129);
            told("the ninth !, in the last E", "earn 1 lapse 1 price 1 tier " + "!".repeat(n) + "q", n <= 8 ? 4 : -136);
        }
        told("8 of each", "earn " + "!(".repeat(8) + "1" + ")".repeat(8) + REST, 4);
        told("8 of each, and the ninth (", "earn " + "!(".repeat(8) + "(1)" + ")".repeat(8) + REST, -121);
        told("8 of each, and the ninth !", "earn " + "!(".repeat(8) + "!1" + ")".repeat(8) + REST, -121);
        told("only those that are open: ( )", "earn " + "(1)+".repeat(20) + "1" + REST, 24);
        told("only those that are open: !", "earn " + "!1+".repeat(30) + "1" + REST, 34);
        told("only those that are open: ( ) twice", "earn " + "(".repeat(8) + "1" + ")".repeat(8) + "*" + "(".repeat(8) + "1" + ")".repeat(8) + REST, 5);
        told("only those that are open: ! twice", "earn " + "!".repeat(8) + "1*" + "!".repeat(8) + "1" + REST, 5);
        told("the ninth ( in the second of two", "earn " + "(".repeat(8) + "1" + ")".repeat(8) + "*" + "(".repeat(9) + "1" + REST, -131);
        told("in the next E they are open no more", "earn " + "(".repeat(8) + "1" + ")".repeat(8) + " lapse " + "(".repeat(8) + "1" + ")".repeat(8) + " price 1 tier 1", 4);
        told("the ninth ! that is open within (", "earn " + "!".repeat(4) + "(" + "!".repeat(5) + "1)" + REST, -114);
        told("! within ( is open no more behind )", "earn " + "!(" + "!".repeat(7) + "1)+" + "!".repeat(8) + "1" + REST, 5);
        runs.edge("a TEXT that broke off leaves none open", "tape 'earn ((((((((1' ; terms 0 = -114 ; tape 'earn !!!!!!!!' ; terms 0 = -113 ; tape 'earn ((((((((!!!!!!!!1))))))))" + REST + "' ; terms 0 = 4");
    }

    private void tooSoon() {
        String text = "earn (l+1) lapse t price l tier q";
        int[] words = {0, 5, 6, 7, 8, 9, 11, 17, 19, 25, 27, 32};
        for (int end = 0; end < text.length(); end++) {
            boolean cut = end > 0 && text.charAt(end - 1) >= 'a' && text.charAt(end - 1) <= 'z' && text.charAt(end) >= 'a' && text.charAt(end) <= 'z';
            int start = 0;
            for (int word : words) {
                start = word < end ? word : start;
            }
            told("the end, if it comes too soon", text.substring(0, end), -100 - (cut ? start : end));
            told("the end (the place behind the last byte)", text.substring(0, end) + " ", -100 - (cut ? start : end + 1));
        }
        told("the end comes in time", text, 5);
        told("the end, within parentheses", "earn 1 lapse 1 price 1 tier (q", -130);
        told("the end, behind a sign", "earn 1 lapse 1 price 1 tier q+", -130);
        told("the end, behind !", "earn 1 lapse 1 price 1 tier !", -129);
        told("the end, where a byte would be a fault", "earn 1 lapse 1 price 1 tier (", -129);
    }

    private void ints() {
        earns("Ints wrap: +", "32767*65536+65535+1<0", 1);
        earns("Ints wrap: +, just below", "32767*65536+65535<0", 0);
        earns("Ints wrap: -", "0-32767*65536-65535-1<0", 1);
        earns("Ints wrap: -, one more", "0-32767*65536-65535-2>0", 1);
        earns("Ints wrap: *", "32768*65536<0", 1);
        earns("Ints wrap: *, to 0", "65536*65536=0", 1);
        earns("Ints wrap: *, the greatest NUMBERS", "99999*99999=99999*14098+79507", 1);
        earns("Ints wrap: *, what is left", "99999*99999/14099", 99997);
        earns("Ints wrap: / of the least by -1", "32768*65536/(0-1)=32768*65536", 1);
        earns("Ints wrap: the least is its own other side", "0-32768*65536=32768*65536", 1);
        earns("a NUMBER fits", "99999+0", 99999);
    }

    private void divided() {
        earns("/ cuts towards 0", "7/2", 3);
        earns("/ cuts towards 0", "8/2", 4);
        earns("/ cuts towards 0", "1/2", 0);
        earns("/ cuts towards 0, below 0", "(0-7)/2+10", 7);
        earns("/ cuts towards 0, below 0", "7/(0-2)+10", 7);
        earns("/ cuts towards 0, below 0", "(0-1)/2+10", 10);
        earns("/ cuts towards 0, both below 0", "(0-7)/(0-2)", 3);
        earns("and is 0 by 0", "7/0+9", 9);
        earns("and is 0 by 0", "0/0+9", 9);
        earns("and is 0 by 0", "(0-7)/0+9", 9);
        earns("and is 0 by 0, also by what comes to 0", "7/(l-7)+9", 9);
        earns("by 1 and -1", "7/1-7/(0-1)", 14);
    }

    private void tests() {
        int[][] two = {{1, 2}, {2, 2}, {3, 2}};
        for (int[] v : two) {
            earns("tests give 1 or 0", v[0] + "<" + v[1], v[0] < v[1] ? 1 : 0);
            earns("tests give 1 or 0", v[0] + "=" + v[1], v[0] == v[1] ? 1 : 0);
            earns("tests give 1 or 0", v[0] + ">" + v[1], v[0] > v[1] ? 1 : 0);
        }
        earns("a test below 0", "0-1<0", 1);
        earns("a test of the farthest ints", "32768*65536<32767*65536", 1);
        String[] values = {"0", "1", "9", "(0-1)"};
        for (String a : values) {
            earns("! gives 1 or 0 (what is not 0 is true)", "!" + a, a.equals("0") ? 1 : 0);
            earns("!! gives 1 or 0 (what is not 0 is true)", "!!" + a, a.equals("0") ? 0 : 1);
            for (String b : values) {
                earns("& gives 1 or 0 (what is not 0 is true)", a + "&" + b, a.equals("0") || b.equals("0") ? 0 : 1);
                earns("| gives 1 or 0 (what is not 0 is true)", a + "|" + b, a.equals("0") && b.equals("0") ? 0 : 1);
            }
        }
        earns("& is not by bits", "1&2", 1);
        earns("both sides are worked out", "0&(7/0)|1|(7/0)", 1);
    }

    private void loosestFirst() {
        earns("| is looser than &", "1|1&0", 1);
        earns("| is looser than &", "0&0|1", 1);
        earns("& is looser than a test", "1&2=1", 0);
        earns("& is looser than a test", "2=1&1", 0);
        earns("| is looser than a test", "1|2=3", 1);
        earns("a test is looser than +", "1+1=2", 1);
        earns("a test is looser than +", "2=1+1", 1);
        earns("a test is looser than -", "3-1>1", 1);
        earns("+ is looser than *", "2+3*4", 14);
        earns("+ is looser than *", "2*3+4", 10);
        earns("- is looser than /", "20-8/4", 18);
        earns("+ and - go from the left", "20-5+4", 19);
        earns("+ and - go from the left", "20-5-4", 11);
        earns("* and / go from the left", "20/3*3", 18);
        earns("* and / go from the left", "100/5/2", 10);
        earns("! is the tightest", "!0+5", 6);
        earns("! is the tightest", "!0*5", 5);
        earns("! is the tightest", "!1=0", 1);
        earns("! of ( E )", "!(0+5)", 0);
        earns("( E )", "(2+3)*4", 20);
        earns("( E )", "20-(5-4)", 19);
        earns("( E )", "100/(20/5)", 25);
        earns("( E )", "(1|1)&0", 0);
        earns("( E ) of a test is a number", "(1<2)+(2<3)", 2);
        earns("as long as THE TAPE lets it be", "1+".repeat(51) + "9", 60);
        earns("as long as THE TAPE lets it be, from the left", "99-" + "1-".repeat(49) + "9", 41);
        runs.edge("the last E behind long ones", "member 0 0 ; tape 'earn " + "1+".repeat(20) + "1 lapse " + "1+".repeat(15) + "5 price " + "1+".repeat(10) + "7 tier 5-3' ; terms 0 = 50\n"
            + "fly 0 0 1 0 0 ; brought 0 0 0 = 21 ; stands 0 19 0 0 = 21 ; stands 0 20 0 0 = 0 ; stands 0 0 0 2 = 2 ; flight 5 1 0 1 ; ask 0 0 0 ; settle 0 = 1 ; asked 0 4 = 17");
        for (int inmost = 0; inmost <= 1; inmost++) {
            earns("very much is still to be worked out", "0|1&5<4+2*(".repeat(7) + inmost + ")".repeat(7), inmost);
        }
        earns("very much is still to be worked out", "3+2*(".repeat(8) + "l" + ")".repeat(8), 3 * 255 + 256 * 7);
        earns("8 deep", "1+(1+(1+(1+(1+(1+(1+(1+(1))))))))", 9);
    }

    private void inForce() {
        String a = "tape 'earn 11 lapse 99 price 1 tier 0' ; terms ";
        String b = "tape 'earn 22 lapse 99 price 1 tier 0' ; terms ";
        String flown = "member 0 0 ; rule 0 0\n";
        runs.edge("in force from a DAY on", flown + a + "5 ; days 9 ; fly 0 4 7 0 0 ; fly 0 5 7 0 0 ; fly 0 6 7 0 0 ; brought 0 9 9 = 7 ; brought 1 9 9 = 11 ; brought 2 9 9 = 11");
        runs.edge("those with the latest DAY that is not behind it", flown + a + "3\n" + b + "6 ; days 9 ; fly 0 2 7 0 0 ; fly 0 3 7 0 0 ; fly 0 5 7 0 0 ; fly 0 6 7 0 0 ; fly 0 9 7 0 0\n"
            + "brought 0 9 9 = 7 ; brought 1 9 9 = 11 ; brought 2 9 9 = 11 ; brought 3 9 9 = 22 ; brought 4 9 9 = 22");
        runs.edge("the latest DAY, not those told last", flown + b + "6\n" + a + "3 ; days 9 ; fly 0 2 7 0 0 ; fly 0 3 7 0 0 ; fly 0 5 7 0 0 ; fly 0 6 7 0 0\n"
            + "brought 0 9 9 = 7 ; brought 1 9 9 = 11 ; brought 2 9 9 = 11 ; brought 3 9 9 = 22");
        runs.edge("of several those told last", flown + a + "3\n" + b + "3 ; days 3 ; fly 0 3 7 0 0 ; brought 0 3 3 = 22\n" + a + "3 ; brought 0 3 3 = 11");
        runs.edge("from DAY 0 on, of several those told last", flown + a + "0\n" + b + "0 ; fly 0 0 7 0 0 ; brought 0 0 0 = 22\n" + a + "0 ; brought 0 0 0 = 11");
        runs.edge("all 4 of them", flown + a + "1\n" + b + "2\n" + a + "3\n" + b + "3 ; days 4 ; fly 0 0 7 0 0 ; fly 0 1 7 0 0 ; fly 0 2 7 0 0 ; fly 0 3 7 0 0 ; fly 0 4 7 0 0\n"
            + "brought 0 4 4 = 7 ; brought 1 4 4 = 11 ; brought 2 4 4 = 22 ; brought 3 4 4 = 22 ; brought 4 4 4 = 22 ; stands 0 1200 4 2 = 0");
        runs.edge("in force on the last DAY", flown + a + "1200 ; 12 x days 100 ; fly 0 1199 7 0 0 ; fly 0 1200 7 0 0 ; brought 0 1200 1200 = 7 ; brought 1 1200 1200 = 11");
        runs.edge("for a LINE by its own DAY, not by the one that is asked for", flown + a + "5 ; days 9 ; fly 0 4 7 0 0 ; brought 0 4 9 = 7 ; brought 0 1200 9 = 7");
        runs.edge("Without any: LEG, 720, LEG, 0", "member 0 0 ; fly 0 0 1 33 9999 ; fly 0 0 9999 0 0 ; brought 0 0 0 = 1 ; brought 1 0 0 = 9999 ; stands 0 719 0 0 = 10000 ; stands 0 720 0 0 = 0 ; stands 0 0 0 2 = 0\n"
            + "flight 9 77 0 1 ; ask 0 0 3 ; settle 0 = 1 ; asked 0 4 = 77");
        runs.edge("a TEXT that was refused is not in force", "member 0 0 ; tape 'earn 5 lapse 1 price 1 tier' ; terms 0 = -127 ; fly 0 0 7 0 0 ; brought 0 0 0 = 7");
    }

    /** A TEXT is read as if none had been read ahead of it. */
    private void oneBehindAnother() {
        String plain = "tape '" + PLAIN + "' ; terms 0 = 4";
        for (String broken : new String[] {"earn 1 1", "earn 1 x", "earn", "earn (", "earn !", "earn 1+", "earn 1 lapse 1 price 1 tier 1 1", "1", "x", "?", ""}) {
            int fault = broken.isEmpty() ? 0 : broken.endsWith("1") || broken.endsWith("x") || broken.equals("?") ? broken.length() - 1 : broken.length();
            runs.edge("behind '" + broken + "'", "tape '" + broken + "' ; terms 0 = " + (-100 - fault) + "\n" + plain);
        }
        runs.edge("behind TERMS that end in a word", "tape 'earn 1 lapse 1 price 1 tier q' ; terms 0 = 4\n" + plain);
        String much = "earn " + "1+".repeat(60);
        String broken = "tape '" + much + "' ; terms 0 = " + (-100 - much.length()) + "\n";
        runs.edge("behind very many NUMBERS", "member 0 0\n" + broken.repeat(4) + "tape 'earn 12+l lapse 3 price l*2 tier 2' ; terms 0 = 6\n"
            + "fly 0 0 7 0 0 ; brought 0 0 0 = 19 ; stands 0 2 0 0 = 19 ; stands 0 3 0 0 = 0 ; stands 0 0 0 2 = 2 ; flight 9 5 0 1 ; ask 0 0 0 ; settle 0 = 1 ; asked 0 4 = 10");
    }
}
