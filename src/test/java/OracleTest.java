import java.lang.reflect.InvocationTargetException;
import java.lang.reflect.Method;
import java.lang.reflect.Modifier;
import java.util.ArrayList;
import java.util.Arrays;
import java.util.Comparator;
import java.util.HashMap;
import java.util.List;
import java.util.Map;
import java.util.Random;

/** Random runs of calls, right and wrong ones, on the class and on the oracle: each answer must be the same. */
public final class OracleTest {
    private static final int CALLS = 512;
    private static final int[] EDGES = {-1, 0, 1, Integer.MAX_VALUE, Integer.MIN_VALUE, MilesHall.NONE, 3, 4, 8, 10, 16, 17,
        30, 99, 100, 101, 132, 999, 1000, 1200, 1201, 3000, 3001, 4095, 4096, 9999, 10000, 99999, 100000};
    /** How often each call is made; those that are not named once each. */
    private static final Map<String, Integer> WEIGHTS = new HashMap<>();

    static {
        String often = "fly 9 spend 6 gift 5 back 4 withdraw 2 stands 14 brought 10 owes 5 days 3 line 2 "
            + "ask 4 settle 4 asked 4 open 2 pool 3 way 2 taken 2 check 2 text 2";
        String[] words = often.split(" ");
        for (int i = 0; i < words.length; i += 2) {
            WEIGHTS.put(words[i], Integer.parseInt(words[i + 1]));
        }
    }

    private final Random random;
    private final MilesHall hall = new MilesHall();
    private final Oracle oracle = new Oracle();
    private final List<String> calls = new ArrayList<>();
    private final Map<String, Method> ofHall = new HashMap<>();
    private final Map<String, Method> ofOracle = new HashMap<>();
    /** A run keeps to few of the great numbers, so that what it tells fits together. */
    private final int scale;
    private final int stride;
    private static final Map<String, Integer> texts = new HashMap<>();

    private OracleTest(long seed) {
        random = new Random(seed);
        scale = new int[] {30, 300, 9999}[random.nextInt(3)];
        stride = new int[] {3, 20, 60}[random.nextInt(3)];
        for (Method m : MilesHall.class.getDeclaredMethods()) {
            if (Modifier.isPublic(m.getModifiers())) {
                ofHall.put(m.getName(), m);
            }
        }
        for (Method m : Oracle.class.getDeclaredMethods()) {
            if (Modifier.isPublic(m.getModifiers())) {
                ofOracle.put(m.getName(), m);
            }
        }
    }

    public static void main(String[] args) throws Exception {
        int runs = args.length > 0 ? Integer.parseInt(args[0]) : 400;
        long from = args.length > 1 ? Long.parseLong(args[1]) : 1;
        for (long seed = from; seed < from + runs; seed++) {
            if (!new OracleTest(seed).agrees(seed)) {
                System.exit(1);
            }
        }
        System.out.println("OracleTest: " + runs + " runs of " + CALLS + " calls agree; texts " + texts);
    }

    private boolean agrees(long seed) throws Exception {
        if (ofHall.size() != 38 || !ofHall.keySet().equals(ofOracle.keySet())) {
            System.out.println("OracleTest: the faces differ: " + ofHall.keySet() + " and " + ofOracle.keySet());
            return false;
        }
        List<String> bag = new ArrayList<>();
        List<String> names = new ArrayList<>(ofHall.keySet());
        names.add("text");
        names.sort(Comparator.naturalOrder());
        for (String name : names) {
            for (int i = 0; i < WEIGHTS.getOrDefault(name, 1); i++) {
                bag.add(name);
            }
        }
        for (int i = 0; i < 3; i++) {
            if (!same("member", random.nextInt(4), random.nextInt(4096))) {
                return false;
            }
        }
        while (calls.size() < CALLS) {
            String name = bag.get(random.nextInt(bag.size()));
            boolean good = name.equals("text") ? sameText() : name.equals("check") ? sameCheck() : same(name, args(name));
            if (!good) {
                System.out.println("OracleTest: seed " + seed + ", call " + calls.size());
                return false;
            }
        }
        return true;
    }

    private boolean same(String name, int... args) throws Exception {
        Object[] boxed = Arrays.stream(args).boxed().toArray();
        Object want = ofOracle.get(name).invoke(oracle, boxed);
        Object got;
        try {
            got = ofHall.get(name).invoke(hall, boxed);
        } catch (InvocationTargetException e) {
            got = e.getCause();
        }
        calls.add(name + Arrays.toString(args) + " = " + want);
        if (!want.equals(got)) {
            for (String call : calls) {
                System.out.println("  " + call);
            }
            System.out.println("OracleTest: " + name + Arrays.toString(args) + " answered " + got + ", due is " + want);
            return false;
        }
        return true;
    }

    private int[] args(String name) {
        int[] args = new int[ofHall.get(name).getParameterCount()];
        for (int i = 0; i < args.length; i++) {
            boolean odd = random.nextInt(60) == 0;
            args[i] = odd ? EDGES[random.nextInt(EDGES.length)] : usual(name, i, args);
        }
        return args;
    }

    private int below(int n) {
        return random.nextInt(Math.max(1, n));
    }

    private int past() {
        return Math.max(0, oracle.s.today - below(stride * 2) * below(2));
    }

    private int anyDay() {
        return Math.max(0, Math.min(1200, oracle.s.today + below(6 * stride) - 3 * stride));
    }

    private int miles() {
        return 1 + below(scale);
    }

    private int usual(String name, int i, int[] args) {
        int members = oracle.s.members.size();
        int lines = oracle.s.lines.size();
        int flights = oracle.s.flights.size();
        String key = name + " " + i;
        switch (key) {
            case "member 0": case "is 1": case "ask 2": return below(4);
            case "member 1": case "marks 1": return 1 << below(12) | (below(2) == 0 ? 1 << below(12) : 0);
            case "is 0": case "pool 0": case "marks 0": case "fly 0": case "spend 0": case "gift 0": case "gift 3":
            case "stands 0": case "ask 0": return below(members);
            case "pool 1": return below(4) == 0 ? MilesHall.NONE : below(3);
            case "lay 0": case "sheet 0": case "mark 0": case "copy 0": case "copy 2": case "rate 1": return below(2);
            case "days 0": return 1 + below(stride);
            case "rule 0": return below(3);
            case "rule 1": return new int[] {below(40), 1 + below(100), below(999)}[Math.floorMod(args[0], 3)];
            case "fly 1": case "spend 1": case "gift 1": case "back 1": return past();
            case "fly 2": case "flight 1": case "spend 2": case "gift 2": return miles();
            case "fly 3": return 10 * below(4) + below(4);
            case "fly 4": case "offer 0": return 1 + below(scale);
            case "spend 3": case "flight 2": return below(4);
            case "back 0": return spendLine();
            case "withdraw 0": case "line 0": case "brought 0": return below(lines);
            case "line 1": return below(7);
            case "stands 1": case "stands 2": case "brought 1": case "brought 2": case "owes 1": case "owes 2": return anyDay();
            case "stands 3": return below(5);
            case "owes 0": case "rate 0": return 1 + below(3);
            case "rate 2": return below(1000);
            case "trim 0": return below(133);
            case "terms 0": return oracle.s.today + below(60);
            case "flight 0": return oracle.s.today + 1 + below(stride * 2);
            case "flight 3": return below(5);
            case "ask 1": case "settle 0": case "open 0": return Math.max(0, flights - 1 - below(4));
            case "asked 0": return below(oracle.s.asks.size());
            case "asked 1": return below(5);
            case "offer 1": return 1 + below(below(2) == 0 ? 999 : 12);
            case "offer 2": return 1 + below(9);
            case "way 0": case "taken 0": return below(below(2) == 0 ? 3001 : 150);
            case "taken 1": return below(oracle.s.offers.size());
            case "ring 0": return below(3);
            case "sheet 1": return below(17);
            case "mark 1": case "copy 1": case "copy 3": case "copy 4": return below(12);
            case "mark 2": return below(2) == 0 ? below(4096) : random.nextInt();
            case "count 0": return below(11);
            default: return random.nextInt();
        }
    }

    private int spendLine() {
        List<Integer> spends = new ArrayList<>();
        for (Oracle.Line line : oracle.s.lines) {
            if (line.kind() == 1) {
                spends.add(line.number());
            }
        }
        return spends.isEmpty() ? below(oracle.s.lines.size()) : spends.get(below(spends.size()));
    }

    /** Tells rows that are right, or nearly so, ahead of the check. */
    private boolean sameCheck() throws Exception {
        int n = below(below(2) == 0 ? 3001 : 150);
        int[] best = oracle.best(n);
        boolean good = true;
        for (int i = 2; best != null && i < best.length - (below(6) == 0 ? 1 : 0); i++) {
            good = good && same("tell", best[i] + (below(20) == 0 ? 1 : 0));
        }
        if (below(6) == 0) {
            good = good && same("tell", below(3));
        }
        return good && same("check", below(20) == 0 ? n + 1 : n);
    }

    private boolean sameText() throws Exception {
        StringBuilder text = new StringBuilder();
        String[] words = {"earn", "lapse", "price", "tier"};
        String[] names = {"lfpctk", "tk", "lfodtk", "q"};
        for (int part = 0; part < 4; part++) {
            text.append(below(4) == 0 ? "  " : " ").append(words[part]).append(' ');
            text.append(expression(names[part], 3)).append(below(3) == 0 ? " " : "");
            if (part == 3 && below(2) == 0) {
                text.append("/").append(scale);
            }
        }
        for (int i = below(3) * below(2); i > 0; i--) {
            int at = below(text.length());
            String bytes = "()!!((+-*/<=>&| 09alqtk\u0000\u00ff~A";
            switch (below(3)) {
                case 0 -> text.deleteCharAt(at);
                case 1 -> text.insert(at, bytes.charAt(below(bytes.length())));
                default -> text.setCharAt(at, bytes.charAt(below(bytes.length())));
            }
        }
        if (below(12) == 0) {
            text.setLength(below(text.length()));
        }
        return sameTape(text);
    }

    private boolean sameTape(StringBuilder text) throws Exception {
        boolean good = same("trim", 0);
        text.setLength(Math.min(text.length(), 132));
        int length = text.length();
        while (text.length() % 12 != 0) {
            text.append((char) below(256));
        }
        for (int i = 0; i < text.length(); i += 12) {
            int[] v = new int[3];
            for (int j = 0; j < 12; j++) {
                v[j / 4] = v[j / 4] << 8 | text.charAt(i + j);
            }
            good = good && same("feed", v[0], v[1], v[2]);
        }
        good = good && same("trim", length);
        int day = oracle.s.today == 0 && below(2) == 0 ? 0 : oracle.s.today + oracle.s.rules[0] + below(40) - 5;
        good = good && same("terms", day);
        String last = calls.get(calls.size() - 1);
        String kind = last.contains("= -1000") ? "refused" : last.contains("= -") ? "faulty" : "taken";
        texts.merge(kind, 1, Integer::sum);
        return good;
    }

    private String expression(String names, int depth) {
        String[] signs = {"+", "-", "*", "/", "<", "=", ">", "&", "|", "+", "*"};
        StringBuilder e = new StringBuilder(operand(names, depth));
        for (int i = below(4) * below(2) * depth / 3; i > 0; i--) {
            e.append(below(5) == 0 ? " " : "").append(signs[below(signs.length)]).append(below(5) == 0 ? " " : "");
            e.append(operand(names, depth));
        }
        return e.toString();
    }

    private String operand(String names, int depth) {
        int which = below(12);
        if (which == 0 && depth > 0) {
            return "(" + expression(names, depth - 1) + ")";
        }
        if (which == 1 && depth > 0) {
            return "!".repeat(1 + below(3)) + operand(names, depth - 1);
        }
        if (which == 2) {
            int deep = below(12) == 0 ? 7 + below(3) : 1;
            return "(".repeat(deep) + names.charAt(0) + ")".repeat(deep);
        }
        return which < 7 ? names.substring(which % names.length()).substring(0, 1) : "" + below(which == 7 && depth == 2 ? 200000 : scale);
    }
}
