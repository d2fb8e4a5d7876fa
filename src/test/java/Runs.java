import java.lang.reflect.InvocationTargetException;
import java.lang.reflect.Method;
import java.lang.reflect.Modifier;
import java.util.ArrayList;
import java.util.Arrays;
import java.util.HashMap;
import java.util.List;
import java.util.Map;
import java.util.Set;
import java.util.TreeSet;

/**
 * Runs of calls told as text, each on a new object: lines of "call arguments = answer", several on a line with ";".
 * "9 x call .." is that call nine times, "= 4.." counts the answers up from 4, "= ok" is any that refuses nothing,
 * "tape '..'" puts a text on THE TAPE (%41 is byte 65); numbers may be told as 0x41. Whatever is refused must leave all else as it was: each
 * refused call of a run is tested for that by itself.
 */
final class Runs {
    private static final int MOST_CALLS = 512;
    private static final Map<String, Integer> WORDS = new HashMap<>();
    private static final Map<String, Method> METHODS = new HashMap<>();
    private static final Set<Integer> REFUSALS = Set.of(MilesHall.BAD, MilesHall.NO, MilesHall.FULL, MilesHall.SPENT,
        MilesHall.NOTHING, MilesHall.INDEX, MilesHall.SIZE);

    static {
        WORDS.put("BAD", MilesHall.BAD);
        WORDS.put("NO", MilesHall.NO);
        WORDS.put("FULL", MilesHall.FULL);
        WORDS.put("SPENT", MilesHall.SPENT);
        WORDS.put("NONE", MilesHall.NONE);
        WORDS.put("NOTHING", MilesHall.NOTHING);
        WORDS.put("INDEX", MilesHall.INDEX);
        WORDS.put("SIZE", MilesHall.SIZE);
        WORDS.put("MAX", Integer.MAX_VALUE);
        WORDS.put("MIN", Integer.MIN_VALUE);
        for (Method m : MilesHall.class.getDeclaredMethods()) {
            if (Modifier.isPublic(m.getModifiers())) {
                METHODS.put(m.getName(), m);
            }
        }
    }

    /** A call; want null: whatever it answers; ok: any answer that refuses nothing. */
    record Call(String name, int[] args, Integer want, boolean ok) {
        @Override
        public String toString() {
            return name + Arrays.toString(args);
        }
    }

    private final Due due;
    private final TreeSet<Integer> promises = new TreeSet<>();
    private int promise;
    private int refused;

    Runs(Due due) {
        this.due = due;
    }

    /** The edges told from here on are of this promise. */
    void promise(int number) {
        promise = number;
        promises.add(number);
    }

    TreeSet<Integer> promises() {
        return promises;
    }

    int refused() {
        return refused;
    }

    /** A sentence of the document, and a run that would go otherwise if it were broken. */
    void edge(String sentence, String run) {
        List<Call> calls = parsed(run);
        String label = promise + ", " + sentence + ": ";
        due.is(label + "has answers that are due", calls.stream().anyMatch(c -> c.want != null || c.ok) ? 1 : 0, 1);
        due.is(label + "fits into an object's calls", calls.size() <= MOST_CALLS ? 1 : 0, 1);
        MilesHall x = new MilesHall();
        for (int i = 0; i < calls.size(); i++) {
            Call call = calls.get(i);
            long got = answer(x, call);
            if (call.ok) {
                due.is(label + call + " (call " + i + ", " + got + ") is not refused", isRefusal(call, got) ? 1 : 0, 0);
            } else if (call.want != null) {
                due.is(label + call + " (call " + i + ")", got, call.want);
                if (isRefusal(call, call.want)) {
                    refused++;
                    changesNothing(label, calls.subList(0, i), call);
                }
            }
        }
    }

    private static boolean isRefusal(Call call, long answer) {
        boolean fault = call.name.equals("terms") && answer < 0;
        return fault || answer == (int) answer && REFUSALS.contains((int) answer);
    }

    private static long answer(MilesHall x, Call call) {
        Method method = METHODS.get(call.name);
        if (method == null) {
            throw new IllegalArgumentException("no call " + call);
        }
        try {
            return (Integer) method.invoke(x, Arrays.stream(call.args).boxed().toArray());
        } catch (InvocationTargetException e) {
            System.out.println(call + " threw " + e.getCause());
            return Long.MIN_VALUE;
        } catch (IllegalAccessException e) {
            throw new IllegalStateException(e);
        }
    }

    // ---- what a refused call leaves as it was

    private void changesNothing(String label, List<Call> ahead, Call call) {
        List<Call> with = new ArrayList<>(ahead);
        with.add(call);
        List<Call> without = without(ahead, call);
        for (List<Call> part : everything(without)) {
            due.is(label + "asking fits into an object's calls", with.size() + part.size() <= MOST_CALLS ? 1 : 0, 1);
            long[] got = answers(with, part);
            long[] want = answers(without, part);
            for (int i = 0; i < part.size(); i++) {
                if (got[i] != want[i]) {
                    due.is(label + part.get(i) + " behind " + call + ", which was refused,", got[i], want[i]);
                    return;
                }
            }
        }
        due.is(label + call + " changes nothing", 0, 0);
    }

    /** What it is to be like: without the call, but THE TAPE is used up by terms, and no numbers wait behind a check. */
    private static List<Call> without(List<Call> ahead, Call call) {
        List<Call> calls = new ArrayList<>(ahead);
        if (call.name.equals("terms")) {
            calls.add(call("trim", 0));
        }
        if (call.name.equals("check")) {
            for (int i = calls.size() - 1; i >= 0 && !calls.get(i).name.equals("check"); i--) {
                if (calls.get(i).name.equals("tell")) {
                    calls.remove(i);
                }
            }
        }
        return calls;
    }

    private static long[] answers(List<Call> ahead, List<Call> part) {
        MilesHall x = new MilesHall();
        for (Call call : ahead) {
            answer(x, call);
        }
        return part.stream().mapToLong(call -> answer(x, call)).toArray();
    }

    private static Call call(String name, int... args) {
        return new Call(name, args, null, false);
    }

    /** All that can be asked, in parts: each part is asked of an object of its own. */
    private static List<List<Call>> everything(List<Call> ahead) {
        List<Call> counts = new ArrayList<>();
        for (int what = 0; what <= 10; what++) {
            counts.add(call("count", what));
        }
        long[] many = answers(ahead, counts);
        int members = (int) many[0];
        int lines = (int) many[1];
        int flights = (int) many[4];
        int asks = (int) many[5];
        int today = (int) many[10];
        List<List<Call>> parts = new ArrayList<>();
        parts.add(counts);
        parts.add(seats(flights, asks));
        for (int from = 0; from < lines; from += 30) {
            parts.add(lines(from, Math.min(lines, from + 30), today));
        }
        parts.add(standing(members, today));
        parts.add(settings(members));
        parts.add(ways());
        parts.add(goingOn(members, flights, asks));
        List<Call> image = new ArrayList<>(List.of(call("again")));
        image.addAll(counts);
        image.addAll(settings(10));
        parts.add(image);
        return parts;
    }

    private static List<Call> seats(int flights, int asks) {
        List<Call> calls = new ArrayList<>();
        for (int i = 0; i < flights; i++) {
            calls.add(call("open", i));
        }
        for (int i = 0; i < asks; i++) {
            for (int what = 0; what < 5; what++) {
                calls.add(call("asked", i, what));
            }
        }
        return calls;
    }

    private static List<Call> lines(int from, int to, int today) {
        List<Call> calls = new ArrayList<>();
        for (int i = from; i < to; i++) {
            for (int what = 0; what < 7; what++) {
                calls.add(call("line", i, what));
            }
            calls.add(call("brought", i, today, today));
            calls.add(call("brought", i, 1200, Math.max(0, today - 1)));
        }
        return calls;
    }

    private static List<Call> standing(int members, int today) {
        List<Call> calls = new ArrayList<>();
        int[][] days = {{today, today}, {1200, 1200}, {today / 2, today}};
        for (int[] day : days) {
            for (int partner = 1; partner < 4; partner++) {
                calls.add(call("owes", partner, day[0], day[1]));
            }
            for (int i = 0; i < members; i++) {
                for (int what = 0; what < 5; what++) {
                    calls.add(call("stands", i, day[0], day[1], what));
                }
            }
        }
        return calls;
    }

    private static List<Call> settings(int members) {
        List<Call> calls = new ArrayList<>();
        for (int i = 0; i < 4; i++) {
            calls.add(call("ring", i));
        }
        for (int i = 0; i < members; i++) {
            for (int kind = 0; kind < 4; kind++) {
                calls.add(call("is", i, kind));
            }
            calls.add(call("pool", i, MilesHall.NONE));
            calls.add(call("marks", i, 0));
        }
        for (int which = 0; which < 3; which++) {
            calls.add(call("rule", which, 1));
            calls.add(call("rate", which + 1, 0, 0));
            calls.add(call("rate", which + 1, 1, 0));
        }
        for (int s = 0; s < 2; s++) {
            for (int place = 0; place < 16; place++) {
                calls.add(call("mark", s, place, 0));
            }
        }
        return calls;
    }

    private static List<Call> ways() {
        List<Call> calls = new ArrayList<>();
        for (int n : new int[] {0, 1, 10, 100, 1000, 3000}) {
            calls.add(call("way", n));
            for (int offer = 0; offer < 8; offer++) {
                calls.add(call("taken", n, offer));
            }
        }
        calls.add(call("check", 10));
        calls.add(call("count", 8));
        return calls;
    }

    /** What THE TAPE has, and what the flights are, shows in what comes of them. */
    private static List<Call> goingOn(int members, int flights, int asks) {
        List<Call> calls = new ArrayList<>();
        calls.add(call("terms", 1200));
        for (int i = 0; i < members; i++) {
            calls.add(call("stands", i, 1200, 1200, 2));
        }
        for (int i = 0; i < flights; i++) {
            calls.add(call("settle", i));
        }
        for (int i = 0; i < asks; i++) {
            calls.add(call("asked", i, 4));
        }
        calls.add(call("count", 1));
        calls.add(call("tell", 1));
        calls.add(call("days", 1));
        return calls;
    }

    // ---- the reading of runs

    static List<Call> parsed(String run) {
        List<Call> calls = new ArrayList<>();
        for (String line : run.split("[\n;]")) {
            String told = line.strip();
            if (told.startsWith("tape ")) {
                fed(calls, bytes(told.substring(told.indexOf('\'') + 1, told.lastIndexOf('\''))));
            } else if (!told.isEmpty()) {
                read(calls, told);
            }
        }
        return calls;
    }

    private static void read(List<Call> calls, String told) {
        String[] sides = told.split("=");
        String[] words = sides[0].strip().split(" +");
        int times = 1;
        if (words.length > 1 && words[1].equals("x")) {
            times = Integer.parseInt(words[0]);
            words = Arrays.copyOfRange(words, 2, words.length);
        }
        String want = sides.length > 1 ? sides[1].strip() : "";
        boolean up = want.endsWith("..");
        int[] args = new int[words.length - 1];
        for (int i = 0; i < args.length; i++) {
            args[i] = number(words[i + 1]);
        }
        boolean ok = want.equals("ok");
        Integer first = want.isEmpty() || ok ? null : Integer.valueOf(number(up ? want.substring(0, want.length() - 2) : want));
        for (int i = 0; i < times; i++) {
            calls.add(new Call(words[0], args, first == null ? null : first + (up ? i : 0), ok));
        }
    }

    private static int number(String word) {
        return WORDS.containsKey(word) ? WORDS.get(word) : (int) (long) Long.decode(word);
    }

    private static int[] bytes(String text) {
        List<Integer> bytes = new ArrayList<>();
        for (int i = 0; i < text.length(); i++) {
            if (text.charAt(i) == '%') {
                bytes.add(Integer.parseInt(text.substring(i + 1, i + 3), 16));
                i += 2;
            } else {
                bytes.add((int) text.charAt(i));
            }
        }
        return bytes.stream().mapToInt(b -> b).toArray();
    }

    private static void fed(List<Call> calls, int[] bytes) {
        calls.add(call("trim", 0));
        for (int i = 0; i < bytes.length; i += 12) {
            int[] three = new int[3];
            for (int j = 0; j < 12; j++) {
                three[j / 4] = three[j / 4] << 8 | (i + j < bytes.length ? bytes[i + j] : ' ');
            }
            calls.add(call("feed", three));
        }
        calls.add(call("trim", bytes.length));
    }
}
