/** Counts and prints the answers that are not the ones that are due. */
final class Due {
    private final String test;
    private int asked;
    private int wrong;

    Due(String test) {
        this.test = test;
    }

    void is(String call, long got, long want) {
        asked++;
        if (got != want) {
            wrong++;
            System.out.println(test + ": " + call + " answered " + got + ", due is " + want);
        }
    }

    /** Feeds a text to THE TAPE, twelve bytes at a time, and trims what was too many. */
    static void text(MilesHall x, String text) {
        x.trim(0);
        StringBuilder padded = new StringBuilder(text);
        while (padded.length() % 12 != 0) {
            padded.append(' ');
        }
        for (int i = 0; i < padded.length(); i += 12) {
            x.feed(four(padded, i), four(padded, i + 4), four(padded, i + 8));
        }
        x.trim(text.length());
    }

    private static int four(CharSequence text, int at) {
        int v = 0;
        for (int i = 0; i < 4; i++) {
            v = v << 8 | text.charAt(at + i) & 255;
        }
        return v;
    }

    /** TERMS told on DAY 0 and in force from then on. */
    static int terms(MilesHall x, String text, int day) {
        text(x, text);
        return x.terms(day);
    }

    void end() {
        System.out.println(test + ": " + asked + " answers, " + wrong + " not as due");
        if (wrong != 0) {
            System.exit(1);
        }
    }
}
