import java.lang.reflect.InvocationTargetException;
import java.lang.reflect.Method;
import java.util.ArrayList;
import java.util.Arrays;
import java.util.Comparator;
import java.util.List;
import java.util.Set;

/**
 * Compares the program with the model: the model's own shortcuts against the definitions, all questions about all
 * short words, and long runs of calls, always the same ones, on new objects.
 */
public final class ModelTests {
    private static final int RUNS = 240;
    private static final int CALLS = 512;
    private static final int[] WILD = {Integer.MIN_VALUE, Integer.MIN_VALUE + 1, -1000, -2, -1, 0, 1, 2, 3, 7, 8, 9, 10,
        12, 13, 18, 19, 39, 40, 41, 96, 97, 98, 105, 106, 119, 120, 121, 122, 255, 256, 599, 600, 601, 4095, 4096, 4097,
        65536 + 97, Integer.MAX_VALUE - 1, Integer.MAX_VALUE};
    private static final Set<String> QUESTIONS = Set.of("letters", "length", "letterAt", "compareParts", "factorCount",
        "factorStart", "factorLength", "factorPower", "factorOf", "longestFactor", "factorsIfAppended",
        "factorsIfRotated", "rankOf", "isLyndon", "whyNotLyndon", "isNecklace", "isPrenecklace", "keepingLetter",
        "leastRotation", "rotationCount", "smallestPeriod", "longestBorder", "leastSuffix", "greatestSuffix",
        "meanFactor", "violations", "writeFactors", "reportByte");

    /** Changes after which most texts would be short or all the same. */
    private static final Set<String> RARE = Set.of("setLetters", "readText", "runScript", "cutPart", "restoreSnapshot",
        "nextLyndon", "append");

    private static final List<Method> FACE = face();
    private static long seed = 20250101;
    private static int compared = 0;

    public static void main(String[] args) throws Exception {
        checkPrenecklaces();
        checkFactorings();
        checkNextWords();
        checkShortWords();
        for (int run = 0; run < RUNS; run++) {
            if (!runOnce(run)) {
                break;
            }
        }
        final int all = compared;
        Checks.due("calls were compared", true, () -> all > 100000);
        System.out.println(compared + " calls compared with the model");
        Checks.end();
    }

    private static List<Method> face() {
        List<Method> methods = new ArrayList<>();
        for (Method method : LyndonBench.class.getDeclaredMethods()) {
            if (java.lang.reflect.Modifier.isPublic(method.getModifiers())) {
                methods.add(method);
            }
        }
        methods.sort(Comparator.comparing(Method::getName));
        return methods;
    }

    /** A number from 0 to below a bound; the same row of numbers in each run of the test. */
    private static int pick(int bound) {
        seed = seed * 6364136223846793005L + 1442695040888963407L;
        return (int) ((seed >>> 33) % bound);
    }

    // ---- the model against the definitions

    /** A word begins a necklace if it begins one of less than twice its length; all of them are tried. */
    private static void checkPrenecklaces() {
        for (int letters = 2; letters <= 3; letters++) {
            for (int length = 1; length <= (letters == 2 ? 6 : 4); length++) {
                for (String word : Model.words(letters, length)) {
                    boolean begins = false;
                    for (int more = 0; more <= length && !begins; more++) {
                        for (String rest : Model.words(letters, more)) {
                            begins |= Model.necklace(word + rest);
                        }
                    }
                    boolean want = begins;
                    Checks.due("model: prenecklace " + word, want, () -> Model.prenecklace(word));
                }
            }
        }
    }

    private static List<List<String>> factorings(String word) {
        List<List<String>> all = new ArrayList<>();
        if (word.isEmpty()) {
            all.add(new ArrayList<>());
        }
        for (int to = 1; to <= word.length(); to++) {
            String first = word.substring(0, to);
            if (Model.lyndon(first)) {
                for (List<String> rest : factorings(word.substring(to))) {
                    if (rest.isEmpty() || rest.get(0).compareTo(first) <= 0) {
                        rest.add(0, first);
                        all.add(rest);
                    }
                }
            }
        }
        return all;
    }

    private static void checkFactorings() {
        for (int letters = 2; letters <= 3; letters++) {
            for (int length = 0; length <= (letters == 2 ? 9 : 6); length++) {
                for (String word : Model.words(letters, length)) {
                    Checks.due("model: factors of " + word, List.of(Model.factors(word)), () -> factorings(word));
                }
            }
        }
    }

    private static void checkNextWords() {
        for (int letters = 2; letters <= 3; letters++) {
            for (int most = 1; most <= (letters == 2 ? 9 : 6); most++) {
                List<String> words = new ArrayList<>();
                for (int length = 1; length <= most; length++) {
                    words.addAll(Model.lyndonWordsOf(letters, length));
                }
                words.sort(Comparator.naturalOrder());
                for (int i = 0; i < words.size(); i++) {
                    String word = words.get(i);
                    String want = i + 1 < words.size() ? words.get(i + 1) : null;
                    int n = letters;
                    int m = most;
                    Checks.due("model: next of " + word, want, () -> Model.nextLyndonWord(n, word, m));
                }
            }
        }
    }

    // ---- the program against the model

    /** All questions about all short words. */
    private static void checkShortWords() throws Exception {
        for (int letters = 2; letters <= 4; letters++) {
            for (int length = 0; length <= 10 - 2 * letters; length++) {
                for (String word : Model.words(letters, length)) {
                    LyndonBench bench = new LyndonBench();
                    Model model = new Model();
                    loadBoth(bench, model, "letters " + letters + ";" + (length == 0 ? "" : "text " + word + ";"));
                    bench.runScript();
                    model.runScript();
                    for (Method method : FACE) {
                        if (QUESTIONS.contains(method.getName())) {
                            askAll(bench, model, method, word);
                        }
                    }
                }
            }
        }
    }

    private static void askAll(LyndonBench bench, Model model, Method method, String word) throws Exception {
        int parameters = method.getParameterCount();
        int values = word.length() + 3;
        int all = parameters == 4 ? 16 : parameters == 1 ? values : 1;
        for (int i = 0; i < all; i++) {
            Object[] arguments = new Object[parameters];
            for (int j = 0; j < parameters; j++) {
                arguments[j] = parameters == 4 ? pick(values) - 1 : i - 1;
                if (method.getName().equals("factorsIfAppended")) {
                    arguments[j] = 95 + i;
                }
            }
            compare("\"" + word + "\"", bench, model, method, arguments);
        }
    }

    private static void loadBoth(LyndonBench bench, Model model, String bytes) {
        bench.truncateInput(0);
        model.truncateInput(0);
        byte[] row = bytes.getBytes(java.nio.charset.StandardCharsets.ISO_8859_1);
        for (int i = 0; i < row.length; i += 20) {
            int[] fours = new int[5];
            for (int j = 0; j < 5; j++) {
                fours[j] = Checks.four(row, i + 4 * j);
            }
            bench.append(fours[0], fours[1], fours[2], fours[3], fours[4]);
            model.append(fours[0], fours[1], fours[2], fours[3], fours[4]);
        }
        bench.truncateInput(row.length);
        model.truncateInput(row.length);
    }

    private static boolean compare(String where, LyndonBench bench, Model model, Method method, Object[] arguments)
        throws Exception {
        Method other = Model.class.getMethod(method.getName(), method.getParameterTypes());
        String got = answer(method, bench, arguments);
        String want = answer(other, model, arguments);
        compared++;
        if (!got.equals(want)) {
            Checks.wrong(where + ": " + method.getName() + Arrays.toString(arguments) + " answered " + got + ", due is "
                + want);
        }
        return got.equals(want);
    }

    private static String answer(Method method, Object object, Object[] arguments) throws Exception {
        try {
            return String.valueOf(method.invoke(object, arguments));
        } catch (InvocationTargetException e) {
            return "throws." + e.getCause().getClass().getSimpleName();
        }
    }

    /** A run of calls; its shape decides whether the texts are short or long and how many letters they have. */
    private static boolean runOnce(int run) throws Exception {
        LyndonBench bench = new LyndonBench();
        Model model = new Model();
        int calls = CALLS;
        while (calls > 0) {
            String where = "run " + run + ", call " + (CALLS - calls);
            boolean same;
            if (pick(20) == 0) {
                String bytes = pick(6) == 0 ? randomText() : pick(8) == 0 ? longScript() : randomScript(run);
                loadBoth(bench, model, bytes);
                calls -= bytes.length() / 20 + 4;
                String name = pick(12) == 0 ? "readText" : "runScript";
                same = compare(where + " (input \"" + bytes + "\")", bench, model, LyndonBench.class.getMethod(name),
                    new Object[0]);
                same &= compare(where, bench, model, LyndonBench.class.getMethod("scriptErrorKind"), new Object[0]);
                same &= compare(where, bench, model, LyndonBench.class.getMethod("scriptErrorOffset"), new Object[0]);
            } else {
                Method method = FACE.get(pick(FACE.size()));
                if (RARE.contains(method.getName()) && pick(8) != 0) {
                    continue;
                }
                same = compare(where, bench, model, method, arguments(method, model));
            }
            calls--;
            if (!same || !sameState(where, bench, model)) {
                return false;
            }
        }
        return true;
    }

    private static boolean sameState(String where, LyndonBench bench, Model model) {
        StringBuilder got = new StringBuilder().append(bench.letters()).append(' ');
        StringBuilder want = new StringBuilder().append(model.letters()).append(' ');
        for (int i = -1; i <= 120; i++) {
            got.append(bench.letterAt(i)).append(' ');
            want.append(model.letterAt(i)).append(' ');
        }
        got.append(Checks.shelf(bench)).append(' ').append(bench.undoCount());
        for (int i = 0; i < model.keptCount(); i++) {
            want.append(i == 0 ? "" : " ");
            for (int j = 0; j < model.keptLength(i); j++) {
                want.append((char) model.keptLetter(i, j));
            }
        }
        want.append(' ').append(model.undoCount());
        boolean same = got.toString().equals(want.toString());
        if (!same) {
            Checks.wrong(where + ": the state is " + got + ", due is " + want);
        }
        return same;
    }

    private static Object[] arguments(Method method, Model model) {
        Object[] arguments = new Object[method.getParameterCount()];
        int size = model.length();
        for (int i = 0; i < arguments.length; i++) {
            int value = WILD[pick(WILD.length)];
            if (pick(8) != 0) {
                switch (method.getName()) {
                    case "appendLetter", "factorsIfAppended" -> value = 97 + pick(model.letters());
                    case "dropLast" -> value = pick(4);
                    case "cutPart" -> value = i == 0 ? pick(3) : size - pick(3);
                    case "keepFactor", "factorStart", "factorLength", "factorPower", "rankOf" ->
                        value = pick(model.factorCount() + 2) - 1;
                    case "removeKept", "keptLength" -> value = pick(model.keptCount() + 2) - 1;
                    case "keptLetter" -> value = i == 0 ? pick(model.keptCount() + 1) : pick(12);
                    case "nextLyndon" -> value = Math.min(120, size + pick(6));
                    case "setLetters" -> value = 2 + pick(8);
                    case "lyndonWords", "necklaces" -> value = 1 + pick(18);
                    case "bruijnLetter" -> value = i == 0 ? 1 + pick(5) : pick(700);
                    default -> value = pick(size + 2) - (pick(6) == 0 ? 1 : 0);
                }
            }
            arguments[i] = value;
        }
        return arguments;
    }

    // ---- texts and scripts

    private static String randomWord(int letters, int most) {
        int length = 1 + pick(most);
        StringBuilder word = new StringBuilder();
        int period = 1 + pick(6);
        boolean periodic = pick(3) == 0;
        for (int i = 0; i < length; i++) {
            word.append(periodic && i >= period ? word.charAt(i - period) : (char) ('a' + pick(letters)));
        }
        return word.toString();
    }

    private static String randomText() {
        return randomWord(2 + pick(3), pick(6) == 0 ? 130 : 60) + (pick(2) == 0 ? "!" : "");
    }

    private static String randomScript(int run) {
        int letters = 2 + pick(run % 3 == 0 ? 8 : 2);
        StringBuilder script = new StringBuilder("letters " + letters + ";");
        if (pick(8) != 0) {
            script.append("text ").append(randomWord(letters, pick(3) == 0 ? 119 : 30)).append(";");
        }
        int commands = pick(10);
        int open = 0;
        for (int i = 0; i < commands && script.length() < 520; i++) {
            int kind = pick(16);
            if (kind == 0 && open < 3 && (open < 2 || pick(6) == 0)) {
                script.append("repeat ").append(1 + pick(pick(6) == 0 ? 22 : 4)).append(pick(2) == 0 ? "(" : " ( ");
                open++;
            } else if (kind == 1 && open > 0) {
                script.append(");");
                open--;
            } else {
                script.append(randomCommand(letters)).append(pick(8) == 0 ? " ;\n" : ";");
            }
        }
        while (open > 0 && script.length() < 590) {
            script.append(");");
            open--;
        }
        return pick(8) == 0 ? spoiled(script) : script.toString();
    }

    /** A script that comes near the limits of letters, commands, nesting or kept words, or goes beyond them. */
    private static String longScript() {
        String head = "letters " + (3 + pick(3)) + ";text " + randomWord(3, 3) + ";";
        String body = new String[] {"reverse;", "rotate 1;", "least;", "keep;remove 0;", ""}[pick(5)];
        return switch (pick(6)) {
            case 0 -> head + "repeat 20(append " + randomWord(3, 6) + ";);" + (pick(2) == 0 ? "append a;" : "");
            case 1 -> head + "repeat 20(repeat " + (9 + pick(2)) + "(" + body + "););" + (pick(2) == 0 ? "least;" : "");
            case 2 -> head + "repeat 2(repeat 2(" + body + (pick(2) == 0 ? "repeat 2(););" : "") + "););";
            case 3 -> head + "repeat " + (7 + pick(3)) + "(append " + randomWord(3, 5) + ";keep 0;);";
            case 4 -> head + "repeat " + (3 + pick(6)) + "(append " + randomWord(3, 9) + ";keep;);join;";
            default -> head + "repeat 19(append a;);repeat 20(repeat 5(append b;rotate 3;););";
        };
    }

    private static String randomCommand(int letters) {
        return switch (pick(13)) {
            case 0, 1 -> "text " + randomWord(letters, pick(9) == 0 ? 125 : 20);
            case 2, 3 -> "append " + randomWord(letters + (pick(12) == 0 ? 1 : 0), pick(9) == 0 ? 50 : 8);
            case 4 -> "drop " + pick(3);
            case 5 -> "part " + pick(2) + " " + (1 + pick(8));
            case 6 -> "rotate " + pick(4);
            case 7 -> "reverse";
            case 8 -> "least";
            case 9 -> "least;next " + (20 + pick(101));
            case 10 -> pick(2) == 0 ? "keep" : "keep " + pick(2);
            case 11 -> pick(2) == 0 ? "join" : "keep;remove 0";
            default -> "keep;join";
        };
    }

    /** A script with one byte or token put wrong, or its end cut off. */
    private static String spoiled(StringBuilder script) {
        int at = pick(script.length());
        switch (pick(4)) {
            case 0 -> script.setLength(at);
            case 1 -> script.deleteCharAt(at);
            case 2 -> script.setCharAt(at, "();x7 \n\t\u0000\u00ffA1234".charAt(pick(15)));
            default -> script.insert(at,
                new String[] {"1234", "repeat", ")", "(", ";", "7", "letters", "\u00ff"}[pick(8)]);
        }
        return script.toString();
    }
}
