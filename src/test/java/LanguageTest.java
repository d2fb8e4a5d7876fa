import java.lang.reflect.Field;
import java.lang.reflect.Method;
import java.lang.reflect.Modifier;
import java.nio.charset.StandardCharsets;
import java.nio.file.Files;
import java.nio.file.Path;
import java.util.HashSet;
import java.util.Set;
import java.util.TreeMap;
import java.util.regex.Matcher;
import java.util.regex.Pattern;

/** The public face, and those rules of LANGUAGE.md that can be seen from the source or the class by themselves. */
public final class LanguageTest {
    private static final String FACE = "member 2 is 2 pool 2 marks 2 lay 1 days 1 rule 2 fly 5 spend 4 gift 4 back 2 withdraw 1 "
        + "line 2 stands 4 brought 3 owes 3 rate 3 feed 3 trim 1 terms 1 flight 4 ask 3 settle 1 asked 2 open 1 offer 3 clear 0 "
        + "way 1 taken 2 tell 1 check 1 ring 1 keep 0 again 0 sheet 2 mark 3 copy 5 count 1";
    private static final String CONSTANTS = "BAD NO FULL SPENT NONE NOTHING INDEX SIZE";
    private static final Due due = new Due("LanguageTest");

    public static void main(String[] args) throws Exception {
        face();
        for (Class<?> inside : MilesHall.class.getDeclaredClasses()) {
            inside(inside);
        }
        source();
        due.end();
    }

    private static void face() {
        TreeMap<String, Integer> want = new TreeMap<>();
        String[] words = FACE.split(" ");
        for (int i = 0; i < words.length; i += 2) {
            want.put(words[i], Integer.parseInt(words[i + 1]));
        }
        TreeMap<String, Integer> got = new TreeMap<>();
        for (Method m : MilesHall.class.getDeclaredMethods()) {
            if (Modifier.isPublic(m.getModifiers())) {
                got.put(m.getName(), m.getParameterCount());
                due.is(m.getName() + " answers an int", m.getReturnType() == int.class ? 1 : 0, 1);
            } else {
                due.is(m.getName() + " is private", Modifier.isPrivate(m.getModifiers()) ? 1 : 0, 1);
                due.is(m.getName() + " has a name of its own", want.containsKey(m.getName()) ? 1 : 0, 0);
            }
        }
        due.is("the face " + got, got.equals(want) ? 1 : 0, 1);
        due.is("final", Modifier.isFinal(MilesHall.class.getModifiers()) ? 1 : 0, 1);
        due.is("constructors", MilesHall.class.getConstructors().length, 1);
        Set<String> constants = new HashSet<>();
        for (Field f : MilesHall.class.getDeclaredFields()) {
            if (!Modifier.isPrivate(f.getModifiers())) {
                constants.add(f.getName());
            }
            fixedIfStatic(f);
        }
        due.is("constants " + constants, constants.equals(Set.of(CONSTANTS.split(" "))) ? 1 : 0, 1);
    }

    private static void inside(Class<?> inside) {
        due.is(inside + " is static", Modifier.isStatic(inside.getModifiers()) ? 1 : 0, 1);
        int fields = 0;
        for (Field f : inside.getDeclaredFields()) {
            fields += Modifier.isStatic(f.getModifiers()) ? 0 : 1;
            fixedIfStatic(f);
        }
        due.is(inside + " has few fields", fields <= 20 ? 1 : 0, 1);
        for (Method m : inside.getDeclaredMethods()) {
            boolean taken = (" " + FACE + " ").contains(" " + m.getName() + " ");
            due.is(inside + "." + m.getName() + " has a name of its own", taken ? 1 : 0, 0);
            due.is(inside + "." + m.getName() + " takes few", m.getParameterCount() <= 7 ? 1 : 0, 1);
        }
    }

    private static void fixedIfStatic(Field f) {
        boolean loose = Modifier.isStatic(f.getModifiers()) && !Modifier.isFinal(f.getModifiers());
        due.is(f + " is fixed", loose ? 1 : 0, 0);
    }

    private static void source() throws Exception {
        String text = Files.readString(Path.of("src/main/java/MilesHall.java"), StandardCharsets.UTF_8);
        String code = text.replaceAll("(?s)/\\*.*?\\*/", "").replaceAll("//[^\n]*", "").replaceAll("\"[^\"\n]*\"", "\"\"");
        String[] banned = {"\\b(throw|throws|try|catch|finally|synchronized|assert|native|volatile|package)\\b", "->", "::", "@",
            "Exact\\b", "\\bSystem\\.(?!arraycopy)", "\\b(Random|Thread|Object|Runtime|Scanner|Map|HashMap|Set)\\b",
            "\\.(equals|hashCode|toString|format|split|stream)\\("};
        for (String one : banned) {
            Matcher m = Pattern.compile(one).matcher(code);
            due.is("the source has no " + one, m.find() ? 1 : 0, 0);
        }
        Matcher imports = Pattern.compile("import ([^;]*);").matcher(code);
        while (imports.find()) {
            due.is(imports.group(), imports.group(1).matches("java\\.util\\.(Arrays|ArrayList|List|Iterator)") ? 1 : 0, 1);
        }
        due.is("every byte is plain", text.chars().allMatch(c -> c < 128) ? 1 : 0, 1);
        int length = 0;
        for (String line : code.split("\n")) {
            length = line.matches("( {4}| {8})[a-z].*\\) \\{") ? 0 : length + 1;
            due.is("a method of few lines: " + line, line.matches("( {4}| {8})\\}") && length > 60 && !line.equals("    }") ? 1 : 0, 0);
        }
    }
}
