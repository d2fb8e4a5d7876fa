import java.lang.reflect.Method;
import java.lang.reflect.Modifier;
import java.nio.file.Files;
import java.nio.file.Path;
import java.util.Map;
import java.util.TreeMap;
import java.util.regex.Matcher;
import java.util.regex.Pattern;

/** README.md says how to use the class: its example answers as it says, and no call is left out of its table. */
public final class ReadmeTest {
    private static final Due due = new Due("ReadmeTest");
    private static final Map<String, Method> METHODS = new TreeMap<>();

    public static void main(String[] args) throws Exception {
        String page = Files.readString(Path.of("README.md"));
        for (Method m : MilesHall.class.getDeclaredMethods()) {
            if (Modifier.isPublic(m.getModifiers())) {
                METHODS.put(m.getName(), m);
            }
        }
        example(page);
        table(page);
        for (String refusal : new String[] {"BAD", "NO", "FULL", "NOTHING", "INDEX", "SIZE"}) {
            due.is("README.md says when " + refusal + " is answered", page.contains("\n| `" + refusal + "` |") ? 1 : 0, 1);
        }
        due.end();
    }

    private static void example(String page) throws Exception {
        MilesHall hall = new MilesHall();
        Matcher call = Pattern.compile("hall\\.(\\w+)\\(([-0-9, ]*)\\); +// (-?\\d+)").matcher(page);
        int calls = 0;
        while (call.find()) {
            String[] words = call.group(2).isEmpty() ? new String[0] : call.group(2).split(", ");
            Object[] args = new Object[words.length];
            for (int i = 0; i < args.length; i++) {
                args[i] = Integer.valueOf(words[i]);
            }
            due.is(call.group(), (Integer) METHODS.get(call.group(1)).invoke(hall, args), Long.parseLong(call.group(3)));
            calls++;
        }
        due.is("README.md has an example of many calls", calls >= 10 ? 1 : 0, 1);
    }

    private static void table(String page) {
        String groups = page.substring(page.indexOf("### The groups of calls"), page.indexOf("### Terms"));
        for (String name : METHODS.keySet()) {
            boolean named = Pattern.compile("\\|[^|]*`" + name + "`[^|]*\\|\n").matcher(groups).find();
            due.is("the table has " + name, named ? 1 : 0, 1);
        }
    }
}
