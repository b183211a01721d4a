import java.io.IOException;
import java.lang.reflect.InvocationTargetException;
import java.lang.reflect.Method;
import java.lang.reflect.Modifier;
import java.nio.file.Files;
import java.nio.file.Path;
import java.util.List;
import java.util.Set;
import java.util.TreeSet;
import java.util.regex.Matcher;
import java.util.regex.Pattern;

/** The examples of README.md answer what the comments behind them say, and its table names every method. */
public final class ReadmeTests {
    private static final Pattern NEW = Pattern.compile("LyndonBench bench = new LyndonBench\\(\\);.*");
    private static final Pattern FEED = Pattern.compile("feed\\(bench, \"(.*)\"\\);");
    private static final Pattern CALL = Pattern.compile("bench\\.(\\w+)\\((.*)\\); +// (throws )?(-?\\w+).*");
    private static final Pattern ROW = Pattern.compile("\\| [^|]+ \\| (`.*`) \\|");

    private static LyndonBench bench = null;

    public static void main(String[] args) throws IOException {
        List<String> lines = Files.readAllLines(Path.of("README.md"));
        int examples = 0;
        for (String line : lines) {
            if (follow(line)) {
                examples++;
            }
        }
        int found = examples;
        Checks.due("there are examples", true, () -> found >= 30);
        checkTable(lines);
        Checks.end();
    }

    /** Follows a line of an example; answers whether it was a call with an answer behind it. */
    private static boolean follow(String line) {
        Matcher feed = FEED.matcher(line);
        Matcher call = CALL.matcher(line);
        if (NEW.matcher(line).matches()) {
            bench = new LyndonBench();
        } else if (feed.matches()) {
            Checks.load(bench, feed.group(1));
        } else if (call.matches()) {
            String want = (call.group(3) == null ? "" : "throws.") + call.group(4).replace("NONE", "-1");
            Checks.due(line, want, () -> answer(call.group(1), call.group(2)));
            return true;
        } else if (line.startsWith("bench.")) {
            Checks.wrong("no answer stands behind: " + line);
        }
        return false;
    }

    private static Object answer(String name, String arguments) throws RuntimeException {
        String[] words = arguments.isEmpty() ? new String[0] : arguments.split(", ");
        Object[] values = new Object[words.length];
        Class<?>[] types = new Class<?>[words.length];
        for (int i = 0; i < words.length; i++) {
            values[i] = words[i].startsWith("'") ? words[i].charAt(1) : Integer.parseInt(words[i]);
            types[i] = int.class;
        }
        try {
            return LyndonBench.class.getMethod(name, types).invoke(bench, values);
        } catch (InvocationTargetException e) {
            return "throws." + e.getCause().getClass().getSimpleName();
        } catch (ReflectiveOperationException e) {
            return "no such method";
        }
    }

    private static void checkTable(List<String> lines) {
        Set<String> named = new TreeSet<>();
        for (String line : lines) {
            Matcher row = ROW.matcher(line);
            if (row.matches()) {
                named.addAll(List.of(row.group(1).replace("`", "").split(", ")));
            }
        }
        Set<String> methods = new TreeSet<>();
        for (Method method : LyndonBench.class.getDeclaredMethods()) {
            if (Modifier.isPublic(method.getModifiers())) {
                methods.add(method.getName());
            }
        }
        Checks.due("the methods in the table", methods, () -> named);
    }
}
