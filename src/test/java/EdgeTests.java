import java.io.IOException;
import java.lang.reflect.Method;
import java.nio.file.Files;
import java.nio.file.Path;
import java.util.ArrayList;
import java.util.Arrays;
import java.util.Comparator;
import java.util.List;
import java.util.Set;
import java.util.TreeSet;

/**
 * Runs the tests of the boundary cases: one for each sentence of the document that names one. A test's name begins
 * with its promise, and the sentence stands above it, as in the document.
 */
public final class EdgeTests {
    private static final Class<?>[] PARTS = {InputEdges.class, ScriptEdges.class, ChangeEdges.class, ShelfEdges.class,
        UndoEdges.class, TextEdges.class, WordEdges.class, CountEdges.class, ReportEdges.class};
    private static final int PROMISES = 60;
    private static final Path DOCUMENT = Path.of("../shared/DOC.md");

    public static void main(String[] args) throws Exception {
        String document = Files.exists(DOCUMENT) ? plain(Files.readString(DOCUMENT)) : null;
        Set<Integer> missing = new TreeSet<>();
        for (int i = 1; i <= PROMISES; i++) {
            missing.add(i);
        }
        for (Method test : tests()) {
            Checks.test = test.getName();
            missing.remove(Integer.valueOf(test.getName().substring("promise".length(), "promise".length() + 2)));
            checkQuotation(document, test);
            int before = Checks.made();
            test.invoke(null);
            if (Checks.made() == before) {
                Checks.wrong("the test checks nothing");
            }
        }
        Checks.test = "";
        Checks.due("promises without a test", "[]", () -> missing);
        Checks.end();
    }

    private static List<Method> tests() {
        List<Method> tests = new ArrayList<>();
        for (Class<?> part : PARTS) {
            for (Method method : part.getDeclaredMethods()) {
                if (method.getName().startsWith("promise")) {
                    tests.add(method);
                }
            }
        }
        tests.sort(Comparator.comparing(Method::getName));
        return tests;
    }

    /** The sentence above a test must be in the document, where that can be read; blanks and marks don't count. */
    private static void checkQuotation(String document, Method test) throws IOException {
        Says says = test.getAnnotation(Says.class);
        if (says == null) {
            Checks.wrong("no sentence stands above the test");
        } else if (document != null && !document.contains(plain(says.value()))) {
            Checks.wrong("the document does not say: " + says.value());
        }
    }

    private static String plain(String text) {
        return String.join(" ", Arrays.asList(text.replace("`", "").trim().split("\\s+")));
    }
}
