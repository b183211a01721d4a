import java.nio.charset.StandardCharsets;
import java.util.Collections;
import java.util.function.Function;
import java.util.function.Supplier;

/** What the tests share: counted checks, the name of what a call throws, and a way to fill the input buffer. */
final class Checks {
    interface Call {
        Object answer();
    }

    static final String ILLEGAL = "throws.IllegalArgumentException";
    static final String STATE = "throws.IllegalStateException";
    static final String INDEX = "throws.IndexOutOfBoundsException";
    static final String NO_ELEMENT = "throws.NoSuchElementException";

    /** The name of the test that is running, if it has one. */
    static String test = "";

    private static int wrong = 0;
    private static int made = 0;

    private Checks() {
    }

    /** Checks one answer; an exception counts as the answer "throws." and its name. */
    static void due(String what, Object want, Call call) {
        made++;
        Object got = answerOf(call);
        if (!String.valueOf(want).equals(String.valueOf(got))) {
            wrong++;
            System.out.println(test + (test.isEmpty() ? "" : ": ") + what + " answered " + got + ", due is " + want);
        }
    }

    /** Checks one answer of the test that is running. */
    static void due(Object want, Call call) {
        due("check " + (made + 1), want, call);
    }

    /** Checks that each of several calls throws this. */
    static void all(String name, Call... calls) {
        for (int i = 0; i < calls.length; i++) {
            due("call " + (i + 1) + " of " + calls.length, name, calls[i]);
        }
    }

    static int made() {
        return made;
    }

    static Object answerOf(Call call) {
        try {
            return call.answer();
        } catch (RuntimeException e) {
            return "throws." + e.getClass().getSimpleName();
        }
    }

    static void wrong(String what) {
        made++;
        wrong++;
        System.out.println(test + (test.isEmpty() ? "" : ": ") + what);
    }

    static void end() {
        System.out.println(made + " checks, " + wrong + " wrong");
        if (wrong != 0 || made == 0) {
            System.exit(1);
        }
    }

    /** Makes the input buffer these bytes, each character being one. */
    static void load(LyndonBench bench, String bytes) {
        byte[] row = bytes.getBytes(StandardCharsets.ISO_8859_1);
        bench.truncateInput(0);
        for (int i = 0; i < row.length; i += 20) {
            bench.append(four(row, i), four(row, i + 4), four(row, i + 8), four(row, i + 12), four(row, i + 16));
        }
        bench.truncateInput(row.length);
    }

    static int four(byte[] row, int from) {
        int value = 0;
        for (int i = from; i < from + 4; i++) {
            value = value << 8 | (i < row.length ? row[i] & 255 : 0);
        }
        return value;
    }

    /** A bench whose text, shelf and letters are as after a script; the script must have no error. */
    static LyndonBench after(String script) {
        LyndonBench bench = new LyndonBench();
        load(bench, script);
        if (bench.runScript() == LyndonBench.NONE) {
            wrong("the script \"" + script + "\" has error " + bench.scriptErrorKind() + " at "
                + bench.scriptErrorOffset());
        }
        return bench;
    }

    /** A bench with as many letters and this text. */
    static LyndonBench with(int letters, String text) {
        return after("letters " + letters + ";" + (text.isEmpty() ? "" : "text " + text + ";"));
    }

    static String text(LyndonBench bench) {
        StringBuilder letters = new StringBuilder();
        int length = bench.length();
        for (int i = 0; i < length; i++) {
            letters.append((char) bench.letterAt(i));
        }
        return letters.toString();
    }

    /** The kept words, separated by blanks. */
    static String shelf(LyndonBench bench) {
        StringBuilder words = new StringBuilder();
        int count = bench.keptCount();
        for (int i = 0; i < count; i++) {
            int length = bench.keptLength(i);
            words.append(i == 0 ? "" : " ");
            for (int j = 0; j < length; j++) {
                words.append((char) bench.keptLetter(i, j));
            }
        }
        return words.toString();
    }

    /** Letters, text, shelf and the number of changes that can be undone. */
    static String state(LyndonBench b) {
        return b.letters() + " " + text(b) + " [" + shelf(b) + "] " + b.undoCount();
    }

    /** The length of the input buffer; near its end by the lengths to which it can't be shortened. */
    static int inputLength(LyndonBench bench) {
        int longer = bench.append(0, 0, 0, 0, 0);
        if (longer != LyndonBench.NONE) {
            return bench.truncateInput(longer - 20);
        }
        int length = 600;
        while (answerOf(lengthOf(bench, length)) instanceof String) {
            length--;
        }
        return length;
    }

    private static Call lengthOf(LyndonBench bench, int length) {
        return () -> bench.truncateInput(length);
    }

    /** All that can be learnt of a bench by calls; it is used up by them. */
    static String everything(LyndonBench bench) {
        StringBuilder all = new StringBuilder(state(bench));
        all.append(" report ").append(report(bench));
        all.append(" error ").append(bench.scriptErrorKind()).append(" at ").append(bench.scriptErrorOffset());
        all.append(" input ").append(inputLength(bench));
        while (bench.undoCount() > 0) {
            all.append(" undone ").append(bench.undo()).append(' ').append(state(bench));
        }
        all.append(" snapshot ").append(answerOf(bench::restoreSnapshot)).append(' ').append(state(bench));
        bench.setLetters(9);
        all.append(" read ").append(answerOf(bench::readText)).append(' ').append(text(bench));
        return all.toString();
    }

    /** Checks that a call throws this, and that everything is afterwards as on a bench without the call. */
    static void refused(String name, Supplier<LyndonBench> maker, Function<LyndonBench, Object> call) {
        LyndonBench bench = maker.get();
        due("the refused call", name, () -> call.apply(bench));
        due("after the refused call everything", everything(maker.get()), () -> everything(bench));
    }

    static String times(int count, String part) {
        return String.join("", Collections.nCopies(count, part));
    }

    static String report(LyndonBench bench) {
        StringBuilder bytes = new StringBuilder();
        int value = bench.reportByte(0);
        for (int i = 1; value != LyndonBench.NONE; i++) {
            bytes.append((char) value);
            value = bench.reportByte(i);
        }
        return bytes.toString();
    }
}
