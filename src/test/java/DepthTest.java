import java.io.DataInputStream;
import java.io.IOException;
import java.io.InputStream;
import java.util.ArrayList;
import java.util.HashSet;
import java.util.List;
import java.util.Map;
import java.util.Set;
import java.util.TreeMap;
import java.util.TreeSet;

/** Rule 11 of LANGUAGE.md, calls go at most eight deep, and rule 8, which of them call themselves: seen from the compiled class. */
public final class DepthTest {
    private static final int MOST_DEEP = 8;
    /** Only what reads an E may come to itself again; its guards count what is open. */
    private static final Set<String> RECURSIVE = Set.of("Tape.isJoined", "Tape.isPart", "Tape.isNot", "Tape.isInParens");
    /** How many bytes each operation has behind it, but for those that are read by themselves. */
    private static final String LENGTHS = "0".repeat(16) + "12122" + "11111" + "0".repeat(28) + "11111" + "0".repeat(73) + "2"
        + "0".repeat(20) + "2".repeat(16) + "100" + "0".repeat(6) + "2".repeat(7) + "44" + "212" + "00" + "22" + "00" + "0" + "3" + "22" + "44";
    private static final Due due = new Due("DepthTest");

    private final Map<String, Set<String>> calls = new TreeMap<>();
    private Object[] pool;
    private int[][] pairs;
    private String owner;

    public static void main(String[] args) throws IOException {
        DepthTest test = new DepthTest();
        test.read(MilesHall.class);
        for (Class<?> inside : MilesHall.class.getDeclaredClasses()) {
            test.read(inside);
        }
        test.judge();
        due.end();
    }

    private void judge() {
        due.is("the calls of terms were found", calls.getOrDefault("MilesHall.terms", Set.of()).contains("Tape.isTerms") ? 1 : 0, 1);
        List<String> deepest = new ArrayList<>();
        for (String from : calls.keySet()) {
            boolean again = comesToItself(from);
            due.is(from + " calls itself", again ? 1 : 0, RECURSIVE.contains(from) ? 1 : 0);
            List<String> path = longest(from, new HashSet<>(Set.of(from)));
            deepest = path.size() > deepest.size() ? path : deepest;
        }
        System.out.println("DepthTest: the deepest is " + deepest);
        due.is("calls go at most eight deep", deepest.size() <= MOST_DEEP ? 1 : 0, 1);
    }

    private boolean comesToItself(String from) {
        Set<String> seen = new TreeSet<>(calls.get(from));
        List<String> open = new ArrayList<>(seen);
        while (!open.isEmpty()) {
            for (String next : calls.getOrDefault(open.remove(open.size() - 1), Set.of())) {
                if (seen.add(next)) {
                    open.add(next);
                }
            }
        }
        return seen.contains(from);
    }

    /** Each method at most once: what calls itself counts as one. */
    private List<String> longest(String from, Set<String> above) {
        List<String> best = new ArrayList<>();
        for (String next : calls.get(from)) {
            if (calls.containsKey(next) && above.add(next)) {
                List<String> path = longest(next, above);
                above.remove(next);
                best = path.size() > best.size() ? path : best;
            }
        }
        best.add(0, from);
        return best;
    }

    // ---- the class file

    private void read(Class<?> one) throws IOException {
        owner = shortName(one.getName());
        String file = one.getName() + ".class";
        try (InputStream raw = one.getResourceAsStream(file); DataInputStream in = new DataInputStream(raw)) {
            in.skipNBytes(8);
            readPool(in);
            in.skipNBytes(6);
            in.skipNBytes(2L * in.readUnsignedShort());
            readMembers(in, false);
            readMembers(in, true);
        }
    }

    private static String shortName(String name) {
        return name.substring(Math.max(name.lastIndexOf('$'), name.lastIndexOf('/')) + 1);
    }

    private void readPool(DataInputStream in) throws IOException {
        int size = in.readUnsignedShort();
        pool = new Object[size];
        pairs = new int[size][];
        for (int i = 1; i < size; i++) {
            int tag = in.readUnsignedByte();
            switch (tag) {
                case 1 -> pool[i] = in.readUTF();
                case 3, 4 -> in.skipNBytes(4);
                case 5, 6 -> {
                    in.skipNBytes(8);
                    i++;
                }
                case 7, 8, 16, 19, 20 -> pairs[i] = new int[] {in.readUnsignedShort()};
                case 15 -> in.skipNBytes(3);
                default -> pairs[i] = new int[] {in.readUnsignedShort(), in.readUnsignedShort()};
            }
        }
    }

    private void readMembers(DataInputStream in, boolean methods) throws IOException {
        for (int many = in.readUnsignedShort(); many > 0; many--) {
            in.skipNBytes(2);
            String name = owner + "." + pool[in.readUnsignedShort()];
            in.skipNBytes(2);
            if (methods) {
                calls.computeIfAbsent(name, key -> new TreeSet<>());
            }
            for (int attributes = in.readUnsignedShort(); attributes > 0; attributes--) {
                Object attribute = pool[in.readUnsignedShort()];
                byte[] bytes = new byte[in.readInt()];
                in.readFully(bytes);
                if ("Code".equals(attribute)) {
                    scan(bytes, calls.get(name));
                }
            }
        }
    }

    private void scan(byte[] attribute, Set<String> into) {
        int begin = 8;
        int end = begin + four(attribute, 4);
        for (int at = begin; at < end;) {
            int operation = attribute[at] & 255;
            if (operation >= 182 && operation <= 185) {
                into.add(called((attribute[at + 1] & 255) << 8 | attribute[at + 2] & 255));
            }
            at += length(attribute, at, begin);
        }
    }

    private String called(int method) {
        String of = shortName((String) pool[pairs[pairs[method][0]][0]]);
        return of + "." + pool[pairs[pairs[method][1]][0]];
    }

    private static int length(byte[] code, int at, int begin) {
        int operation = code[at] & 255;
        int table = at + 4 - (at - begin) % 4;
        if (operation == 170) {
            return table - at + 12 + 4 * (four(code, table + 8) - four(code, table + 4) + 1);
        }
        if (operation == 171) {
            return table - at + 8 + 8 * four(code, table + 4);
        }
        if (operation == 196) {
            return (code[at + 1] & 255) == 132 ? 6 : 4;
        }
        return 1 + (operation < LENGTHS.length() ? LENGTHS.charAt(operation) - '0' : 0);
    }

    private static int four(byte[] bytes, int at) {
        return (bytes[at] & 255) << 24 | (bytes[at + 1] & 255) << 16 | (bytes[at + 2] & 255) << 8 | bytes[at + 3] & 255;
    }
}
