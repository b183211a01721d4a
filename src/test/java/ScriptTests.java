/** Promises 4, 22 and 23: what scripts do, the order in which errors are found, and where each kind is reported. */
public final class ScriptTests {
    public static void main(String[] args) {
        head();
        tokens();
        commands();
        numbers();
        words();
        states();
        repeats();
        limits();
        firstErrors();
        oneAfterTheOther();
        Checks.end();
    }

    private static String times(int count, String part) {
        return Checks.times(count, part);
    }

    /** A script without an error, and the text and shelf behind it. */
    static void right(String script, String want) {
        Checks.due("\"" + script + "\"", want, () -> {
            LyndonBench b = new LyndonBench();
            Checks.load(b, script);
            int length = b.runScript();
            if (length == LyndonBench.NONE) {
                return "error " + b.scriptErrorKind() + " at " + b.scriptErrorOffset();
            }
            return Checks.text(b) + "[" + Checks.shelf(b) + "]" + (length == b.length() ? "" : " answered " + length)
                + (b.scriptErrorKind() == 0 && b.scriptErrorOffset() == -1 ? "" : " and an error");
        });
    }

    /** A script with an error at an offset; it must change nothing else. */
    static void wrong(String script, int kind, int offset) {
        Checks.due("\"" + script + "\"", kind + " at " + offset, () -> {
            LyndonBench b = new LyndonBench();
            b.appendLetter('b');
            Checks.load(b, script);
            int length = b.runScript();
            boolean kept = length == LyndonBench.NONE && b.letters() == 3 && b.undoCount() == 1
                && Checks.text(b).equals("acabaabaccababb") && Checks.shelf(b).equals("abac ab")
                && Checks.answerOf(() -> b.truncateInput(1)).equals("throws.IllegalArgumentException");
            return b.scriptErrorKind() + " at " + b.scriptErrorOffset() + (kept ? "" : " but something changed");
        });
    }

    /** An error at the first place of a mark, which is taken out. */
    static void wrongAt(String marked, int kind) {
        int offset = marked.indexOf('#');
        wrong(marked.substring(0, offset) + marked.substring(offset + 1), kind, offset);
    }

    private static void head() {
        right("letters 2;", "[]");
        right("letters 9;text i;", "i[]");
        right("  letters\n\n002 ;\n ", "[]");
        wrongAt("#", 1);
        wrongAt("  \n#", 1);
        wrongAt("#text a;", 1);
        wrongAt("#;", 1);
        wrongAt("#2;", 1);
        wrongAt("#letter 2;", 1);
        wrongAt("#lettersx 2;", 1);
        wrongAt("letters#", 1);
        wrongAt("letters   #", 1);
        wrongAt("letters #x;", 1);
        wrongAt("letters #;", 1);
        wrongAt("letters 2#", 1);
        wrongAt("letters 2 #text a;", 1);
        wrongAt("letters 2 #3;", 1);
        wrongAt("letters #1;", 2);
        wrongAt("letters #10;", 2);
        wrongAt("letters #0;", 2);
        wrongAt("letters #999", 2);
        wrongAt("letters 2;#letters 3;", 1);
        right("letters2;text ab;", "ab[]");
    }

    private static void tokens() {
        wrongAt("letters 2;text#1;", 1);
        right("letters 2;text ab;drop1;", "a[]");
        right("letters 2;text ab;part 0 1;", "a[]");
        right("letters 2;text ab;part 000 001;", "a[]");
        wrongAt("letters 2;text ab;drop #0001;", 1);
        wrongAt("letters #0002;", 1);
        wrongAt("letters 2;text ab;part 0#;", 1);
        wrongAt("letters 2;text ab;part 01#;", 1);
        wrongAt("letters 2;#\ttext ab;", 1);
        wrongAt("letters 2;#\rtext ab;", 1);
        wrongAt("letters 2;#\u0000", 1);
        wrongAt("letters 2;#\u00ff", 1);
        wrongAt("letters 2;text #\u00e1;", 1);
        wrongAt("letters 2;text a#\u00e1;", 1);
        wrongAt("letters 2;text #A;", 1);
        wrongAt("letters 2;text a#B;", 1);
        wrongAt("letters 2;text a#-;", 1);
        wrongAt("letters 2;text ab;drop #-1;", 1);
        wrongAt("letters 2;text a#, b;", 1);
        wrongAt("letters 2;#;", 1);
        wrongAt("letters 2;text a;#;", 1);
        wrongAt("letters 2;#);", 1);
        wrongAt("letters 2;#(", 1);
        wrongAt("letters 2;#7;", 1);
        wrongAt("letters 2;#{", 1);
        wrongAt("letters 2;text a#`;", 1);
        wrongAt("letters 2;text a#{;", 1);
    }

    private static void commands() {
        right("letters 2;text ab;text b;", "b[]");
        right("letters 2;append ab;append ba;", "abba[]");
        right("letters 2;text abba;drop 0;drop 3;", "a[]");
        right("letters 2;text abba;drop 4;", "[]");
        right("letters 3;text abcab;part 1 4;", "bca[]");
        right("letters 3;text abcab;part 5 5;", "[]");
        right("letters 3;text abcab;part 0 0;append c;", "c[]");
        right("letters 3;text abcab;rotate 2;", "cabab[]");
        right("letters 3;text abcab;rotate 5;rotate 0;", "abcab[]");
        right("letters 3;rotate 0;drop 0;part 0 0;reverse;", "[]");
        right("letters 3;text abcac;reverse;", "cacba[]");
        right("letters 3;text bcabca;least;", "abcabc[]");
        right("letters 3;text b;least;", "b[]");
        right("letters 2;text a;next 1;", "b[]");
        right("letters 2;text ab;next 4;", "abb[]");
        right("letters 2;text a;next 120;", times(119, "a") + "b[]");
        right("letters 2;text bab;keep;keep 0;keep 1;", "bab[bab b ab]");
        right("letters 2;text bab;keep;keep 0;keep 1;remove 0;remove 1;", "bab[b]");
        right("letters 2;text ab;keep;text b;keep;join;", "bab[ab b]");
        right("letters 2;text " + times(50, "b") + "ab;keep 50;", times(50, "b") + "ab[ab]");
        right("letters 9;text head;", "head[]");
        wrongAt("letters 9;text #text;", 2);
        wrongAt("letters 2;#keeptext;", 1);
        wrongAt("letters 2;#snapshot;", 1);
        wrongAt("letters 2;#Text a;", 1);
        wrongAt("letters 2;#tex t a;", 1);
        wrongAt("letters 2;text#;", 1);
        wrongAt("letters 2;append#;", 1);
        wrongAt("letters 2;append #1;", 1);
        wrongAt("letters 2;append#", 1);
        wrongAt("letters 2;append a#", 1);
        wrongAt("letters 2;append a #b;", 1);
        wrongAt("letters 2;drop#;", 1);
        wrongAt("letters 2;drop #a;", 1);
        wrongAt("letters 2;drop 0 #0;", 1);
        wrongAt("letters 2;part #;", 1);
        wrongAt("letters 2;part 0#;", 1);
        wrongAt("letters 2;part 0 0 #0;", 1);
        wrongAt("letters 2;rotate#;", 1);
        wrongAt("letters 2;reverse #1;", 1);
        wrongAt("letters 2;least #1;", 1);
        wrongAt("letters 2;text a;next#;", 1);
        wrongAt("letters 2;text a;keep #a;", 1);
        wrongAt("letters 2;text a;keep #(", 1);
        wrongAt("letters 2;text a;keep#", 1);
        wrongAt("letters 2;text a;keep 0#", 1);
        wrongAt("letters 2;text a;keep 0 #0;", 1);
        wrongAt("letters 2;text a;keep #0000;", 1);
        wrongAt("letters 2;text a;keep;remove#;", 1);
        wrongAt("letters 2;text a;keep;join #0;", 1);
        wrongAt("letters 2;text a;keep;join#", 1);
    }

    private static void numbers() {
        wrongAt("letters 2;text ab;drop #3;", 2);
        wrongAt("letters 2;drop #1;", 2);
        wrongAt("letters 2;text ab;rotate #3;", 2);
        wrongAt("letters 2;rotate #1", 2);
        wrongAt("letters 2;text ab;part 0 #3;", 2);
        wrongAt("letters 2;text ab;part 2 #1;", 2);
        wrongAt("letters 2;text ab;part 3 #3;", 2);
        wrongAt("letters 2;text ab;part 999 #1;", 2);
        right("letters 2;text ab;part 2 2;", "[]");
        wrongAt("letters 2;text a;next #0;", 2);
        wrongAt("letters 2;text a;next #121;", 2);
        wrongAt("letters 2;text ba;next #121;", 2);
        wrongAt("letters 2;keep #0;", 2);
        wrongAt("letters 2;text ba;keep #2;", 2);
        wrongAt("letters 2;text ba;keep #999;", 2);
        wrongAt("letters 2;remove #0;", 2);
        wrongAt("letters 2;text a;keep;remove #1;", 2);
        wrongAt("letters 2;repeat #0 ();", 2);
        wrongAt("letters 2;repeat #21 ();", 2);
        right("letters 2;repeat 1();repeat 20();", "[]");
    }

    private static void words() {
        wrongAt("letters 2;text #c;", 2);
        wrongAt("letters 2;text #abc;", 2);
        wrongAt("letters 9;text #j;", 2);
        wrongAt("letters 9;append #abz;", 2);
        wrongAt("letters 2;append #abc", 2);
        wrongAt("letters 2;text #" + times(130, "c") + ";", 2);
        right("letters 3;text abc;", "abc[]");
    }

    private static void states() {
        wrongAt("letters 2;least#;", 3);
        wrongAt("letters 2;text " + times(121, "a") + "#;", 3);
        right("letters 2;text " + times(120, "a") + ";", times(120, "a") + "[]");
        wrongAt("letters 2;text " + times(120, "a") + ";append b#;", 3);
        wrongAt("letters 2;text " + times(120, "a") + ";append b#", 1);
        right("letters 2;text " + times(119, "a") + ";append b;", times(119, "a") + "b[]");
        right("letters 2;text " + times(119, "a") + ";text bb;", "bb[]");
        wrongAt("letters 2;next 3#;", 3);
        wrongAt("letters 2;text ba;next 3 #;", 3);
        wrongAt("letters 2;text aa;next 3\n#;", 3);
        wrongAt("letters 2;text b;next 3#;", 3);
        right("letters 3;text b;next 3;", "bbc[]");
        wrongAt("letters 2;text aab;next 2#;", 3);
        wrongAt("letters 2;keep#;", 3);
        wrongAt("letters 2;text " + times(41, "a") + ";keep#;", 3);
        right("letters 2;text " + times(40, "a") + ";keep;", times(40, "a") + "[" + times(40, "a") + "]");
        wrongAt("letters 2;text " + times(40, "a") + "b;keep 0#;", 3);
        right("letters 2;text " + times(39, "a") + "b;keep 0;", times(39, "a") + "b[" + times(39, "a") + "b]");
        wrongAt("letters 2;text a;" + times(8, "keep;") + "keep#;", 3);
        wrongAt("letters 2;text a;" + times(8, "keep;") + "keep 0#;", 3);
        wrongAt("letters 2;text a;" + times(8, "keep;") + "keep #1;", 2);
        right("letters 2;text a;" + times(8, "keep;") + "remove 7;keep 0;", "a[a a a a a a a a]");
        wrongAt("letters 2;join#;", 3);
        wrongAt("letters 2;text " + times(40, "a") + ";keep;keep;keep;text b;keep;join#;", 3);
        right("letters 2;text " + times(40, "a") + ";keep;keep;keep;join;remove 0;remove 0;", times(120, "a") + "["
            + times(40, "a") + "]");
    }

    private static void repeats() {
        right("letters 2;repeat 3(append ab;);", "ababab[]");
        right("letters 2;repeat 2 ( append a ; repeat 2 ( append b ; ) ; ) ;", "abbabb[]");
        right("letters 2;repeat 2(append a;repeat 3(append b;);append a;);append b;", "abbbaabbbab[]");
        right("letters 2;repeat 2(repeat 2(append a;);repeat 2(append b;););", "aabbaabb[]");
        right("letters 2;repeat 20(repeat 20(););", "[]");
        right("letters 2;repeat 20(" + times(40, "repeat 20();") + ");", "[]");
        wrongAt("letters 2;repeat#", 1);
        wrongAt("letters 2;repeat #(", 1);
        wrongAt("letters 2;repeat 2#;", 1);
        wrongAt("letters 2;repeat 2 #append a;", 1);
        wrongAt("letters 2;repeat 2(#", 1);
        wrongAt("letters 2;repeat 2(append a;#", 1);
        wrongAt("letters 2;repeat 2(append a#);", 1);
        wrongAt("letters 2;repeat 2(append a;)#", 1);
        wrongAt("letters 2;repeat 2(append a;) #append a;", 1);
        wrongAt("letters 2;repeat 2(append a;)#);", 1);
        wrongAt("letters 2;repeat 2(append a;);#);", 1);
        wrongAt("letters 2;repeat 2(#;);", 1);
        wrongAt("letters 2;repeat 2(#letters 2;);", 1);
        wrongAt("letters 2;repeat 2(repeat 2(#repeat 2();););", 4);
        wrongAt("letters 2;repeat 2(repeat 2(append a;#repeat", 4);
        wrongAt("letters 2;repeat 2(repeat 2();repeat 2#;", 1);
        right("letters 2;repeat 2(repeat 2(););repeat 2(repeat 2(););", "[]");
    }

    private static void limits() {
        right("letters 2;repeat 20(repeat 10(reverse;););", "[]");
        wrongAt("letters 2;repeat 20(repeat 10(reverse;););#reverse;", 5);
        wrongAt("letters 2;repeat 20(repeat 10(reverse;););#nothing;", 1);
        wrongAt("letters 2;repeat 20(repeat 10(reverse;););#;", 1);
        wrongAt("letters 2;repeat 20(repeat 10(reverse;););#least;", 5);
        wrongAt("letters 2;repeat 20(repeat 10(reverse;););#text", 5);
        right("letters 2;repeat 20(repeat 10(reverse;););repeat 20();", "[]");
        wrongAt("letters 2;repeat 20(repeat 10(reverse;););repeat 20(#reverse;);", 5);
        wrongAt("letters 2;repeat 20(repeat 10(reverse;););repeat 2(repeat 2(#repeat 2(", 4);
        wrongAt("letters 2;repeat 20(repeat 20(#reverse;););", 5);
        right("letters 2;repeat 10(repeat 19(reverse;);reverse;);", "[]");
        wrongAt("letters 2;text a;repeat 10(repeat 19(reverse;);#reverse;);", 5);
        String most = "letters 2;" + times(73, "reverse;");
        right(most + "      ", "[]");
        wrongAt(most + "least#;", 3);
        wrongAt(most + "drop 0#", 1);
    }

    /** Errors count in the order of execution, not of the text, and only those that are reached. */
    private static void firstErrors() {
        wrongAt("letters 2;text ab;repeat 3(drop #1;);", 2);
        wrongAt("letters 2;text ab;repeat 3(drop #1;)?", 2);
        wrongAt("letters 2;text ab;repeat 2(drop 1;)#?", 1);
        wrongAt("letters 2;text ab;repeat 3(drop 1;#", 1);
        wrongAt("letters 2;text ab;repeat 9(keep#;);", 3);
        wrongAt("letters 2;text #abc;text A;", 2);
        wrongAt("letters 2;least#;drop 9;", 3);
        wrongAt("letters 2;drop #9;least;", 2);
        wrongAt("letters 2;drop #9 9;", 2);
        wrongAt("letters 2;text ab;repeat 20(append abaaaa#;);", 3);
    }

    /** Nothing of a script that was run, to its end or not, may reach into the next one. */
    private static void oneAfterTheOther() {
        LyndonBench b = new LyndonBench();
        String[] scripts = {"letters 2;repeat 20(repeat 10(reverse;););", "letters 2;repeat 20(repeat 10(reverse;););",
            "letters 2;repeat 2(repeat 2(text ab;keep;", "letters 2;repeat 2(repeat 2(append a;););",
            "letters 2;repeat 2(append b;", "letters 2;text b;", "letters 2;);", "letters 2;join;"};
        String[] want = {"0 0 -1", "0 0 -1", "-1 1 41", "4 0 -1", "-1 1 28", "1 0 -1", "-1 1 10", "-1 3 14"};
        for (int i = 0; i < scripts.length; i++) {
            String script = scripts[i];
            Checks.due("\"" + script + "\" behind others", want[i], () -> {
                Checks.load(b, script);
                return b.runScript() + " " + b.scriptErrorKind() + " " + b.scriptErrorOffset();
            });
        }
        Checks.due("the state behind them", "b[] 4",
            () -> Checks.text(b) + "[" + Checks.shelf(b) + "] " + b.undoCount());
    }
}
