import java.util.Random;

/**
 * FAULT by its own words: the first word or sign with which no TEXT goes on. Whether a TEXT goes on is asked by
 * telling it with every end that it may have, so this test needs no reader of its own.
 */
public final class FaultTest {
    private static final String[] PIECES = {"earn", "lapse", "price", "tier", "l", "f", "p", "c", "o", "d", "t", "k", "q", "1", "99999",
        "100000", "ll", "!", "(", ")", "+", "-", "*", "/", "<", "=", ">", "&", "|", "?", "(", "(", "!", ")", ")"};
    private static final String[] PARTS = {" earn 1", " lapse 1", " price 1", " tier 1"};
    private static final String[] WHOLE = {"earn l+1<f*2&p lapse t price (o-d)|!k tier q/9", "earn ((l)) lapse !!(1) price l tier 1=q",
        "earn ((((((((l)))))))) lapse 1 price f tier q", "earn !!!!!!!!l lapse !(!(!(!(t)))) price 1 tier q"};
    private static final int MOST_OPEN = 8, FAULT = -100, MOST_TEXT = 85;
    private static final Due due = new Due("FaultTest");

    public static void main(String[] args) {
        Random random = new Random(11);
        int whole = 0;
        for (int i = 0; i < 2000; i++) {
            String text = i % 2 == 0 ? row(random) : changed(random);
            whole += tried(text) ? 1 : 0;
        }
        due.is("there were whole TEXTS among them", whole > 20 && whole < 1500 ? 1 : 0, 1);
        due.end();
    }

    private static String row(Random random) {
        StringBuilder text = new StringBuilder(random.nextInt(9) == 0 ? "" : "earn ");
        int many = random.nextInt(25);
        for (int i = 0; i < many && text.length() < MOST_TEXT - 8; i++) {
            text.append(PIECES[random.nextInt(PIECES.length)]).append(random.nextInt(3) == 0 ? "" : " ");
        }
        return text.toString();
    }

    private static String changed(Random random) {
        StringBuilder text = new StringBuilder(WHOLE[random.nextInt(WHOLE.length)]);
        for (int i = random.nextInt(4); i > 0; i--) {
            int at = random.nextInt(text.length());
            if (random.nextInt(3) == 0) {
                text.deleteCharAt(at);
            } else {
                text.insert(at, PIECES[random.nextInt(PIECES.length)]);
            }
        }
        return text.toString();
    }

    /** Whether the TEXT is whole; else its fault is held against what goes on. */
    private static boolean tried(String text) {
        int answer = told(text);
        if (answer >= 0) {
            return true;
        }
        int place = FAULT - answer;
        boolean within = place >= 0 && place <= text.length();
        due.is("the fault of '" + text + "' is in it: " + place, within ? 1 : 0, 1);
        if (within) {
            due.is("'" + text + "' goes on up to " + place, goesOn(text.substring(0, place)) ? 1 : 0, 1);
            if (place < text.length()) {
                due.is("'" + text + "' goes on no more with " + place, goesOn(text.substring(0, behind(text, place))) ? 1 : 0, 0);
            }
        }
        return false;
    }

    private static int behind(String text, int place) {
        int end = place + 1;
        while (end < text.length() && kind(text.charAt(place)) > 0 && kind(text.charAt(end)) == kind(text.charAt(place))) {
            end++;
        }
        return end;
    }

    private static int kind(char c) {
        return c >= 'a' && c <= 'z' ? 1 : c >= '0' && c <= '9' ? 2 : 0;
    }

    /** What may be missing of a TEXT: a PART, what ends the parentheses, the E behind this one. */
    private static boolean goesOn(String begun) {
        for (String part : new String[] {"", " 1"}) {
            for (int open = 0; open <= MOST_OPEN; open++) {
                StringBuilder end = new StringBuilder(part + ")".repeat(open));
                for (int from = PARTS.length; from >= 0; from--) {
                    if (told(begun + end + String.join("", java.util.Arrays.copyOfRange(PARTS, from, PARTS.length))) >= 0) {
                        return true;
                    }
                }
            }
        }
        return false;
    }

    private static int told(String text) {
        return Due.terms(new MilesHall(), text, 0);
    }
}
