import java.nio.charset.StandardCharsets;

/** What the tests share: counted checks, the name of what a call throws, and a way to fill the input buffer. */
final class Checks {
    interface Call {
        Object answer();
    }

    private static int wrong = 0;
    private static int made = 0;

    private Checks() {
    }

    /** Checks one answer; an exception counts as the answer "throws." and its name. */
    static void due(String what, Object want, Call call) {
        made++;
        Object got = answerOf(call);
        if (!String.valueOf(want).equals(String.valueOf(got))) {
            wrong++;
            System.out.println(what + " answered " + got + ", due is " + want);
        }
    }

    static Object answerOf(Call call) {
        try {
            return call.answer();
        } catch (RuntimeException e) {
            return "throws." + e.getClass().getSimpleName();
        }
    }

    static void wrong(String what) {
        made++;
        wrong++;
        System.out.println(what);
    }

    static void end() {
        System.out.println(made + " checks, " + wrong + " wrong");
        if (wrong != 0 || made == 0) {
            System.exit(1);
        }
    }

    /** Makes the input buffer these bytes, each character being one. */
    static void load(LyndonBench bench, String bytes) {
        byte[] row = bytes.getBytes(StandardCharsets.ISO_8859_1);
        bench.truncateInput(0);
        for (int i = 0; i < row.length; i += 20) {
            bench.append(four(row, i), four(row, i + 4), four(row, i + 8), four(row, i + 12), four(row, i + 16));
        }
        bench.truncateInput(row.length);
    }

    static int four(byte[] row, int from) {
        int value = 0;
        for (int i = from; i < from + 4; i++) {
            value = value << 8 | (i < row.length ? row[i] & 255 : 0);
        }
        return value;
    }

    /** A bench whose text, shelf and letters are as after a script; the script must have no error. */
    static LyndonBench after(String script) {
        LyndonBench bench = new LyndonBench();
        load(bench, script);
        if (bench.runScript() == LyndonBench.NONE) {
            wrong("the script \"" + script + "\" has error " + bench.scriptErrorKind() + " at "
                + bench.scriptErrorOffset());
        }
        return bench;
    }

    /** A bench with as many letters and this text. */
    static LyndonBench with(int letters, String text) {
        return after("letters " + letters + ";" + (text.isEmpty() ? "" : "text " + text + ";"));
    }

    static String text(LyndonBench bench) {
        StringBuilder letters = new StringBuilder();
        for (int i = 0; i < bench.length(); i++) {
            letters.append((char) bench.letterAt(i));
        }
        return letters.toString();
    }

    /** The kept words, separated by blanks. */
    static String shelf(LyndonBench bench) {
        StringBuilder words = new StringBuilder();
        for (int i = 0; i < bench.keptCount(); i++) {
            words.append(i == 0 ? "" : " ");
            for (int j = 0; j < bench.keptLength(i); j++) {
                words.append((char) bench.keptLetter(i, j));
            }
        }
        return words.toString();
    }

    static String report(LyndonBench bench) {
        StringBuilder bytes = new StringBuilder();
        for (int i = 0; bench.reportByte(i) != LyndonBench.NONE; i++) {
            bytes.append((char) bench.reportByte(i));
        }
        return bytes.toString();
    }
}
