/** Boundary cases of the promises 4, 22 and 23: scripts and their errors. */
final class ScriptEdges {
    private static final String LONG_REPEAT = "letters 2;repeat 20(repeat 10(reverse;););";

    private ScriptEdges() {
    }

    private static void right(String script, String want) {
        ScriptTests.right(script, want);
    }

    /** The error is at the first #, which does not belong to the script. */
    private static void wrongAt(String marked, int kind) {
        ScriptTests.wrongAt(marked, kind);
    }

    private static String times(int count, String part) {
        return Checks.times(count, part);
    }

    private static LyndonBench ready(String script) {
        LyndonBench b = new LyndonBench();
        Checks.load(b, script);
        return b;
    }

    // ---- what a script does as a whole

    @Says("A script without an error replaces everything: the text and the shelf are empty before its first command.")
    static void promise04_textIsEmptyBeforeTheFirstCommand() {
        right("letters 3;append b;", "b[]");
        right("letters 3;drop 0;rotate 0;part 0 0;reverse;", "[]");
        wrongAt("letters 3;drop #1;", 2);
        wrongAt("letters 3;rotate #1;", 2);
        wrongAt("letters 3;part 0 #1;", 2);
        wrongAt("letters 3;least#;", 3);
        wrongAt("letters 3;next 9#;", 3);
        wrongAt("letters 3;keep#;", 3);
        wrongAt("letters 3;keep #0;", 2);
    }

    @Says("A script without an error replaces everything: the text and the shelf are empty before its first command.")
    static void promise04_shelfIsEmptyBeforeTheFirstCommand() {
        wrongAt("letters 3;remove #0;", 2);
        wrongAt("letters 3;join#;", 3);
        right("letters 3;text c;" + times(8, "keep;"), "c[c c c c c c c c]");
        LyndonBench b = ready("letters 3;text a;");
        b.runScript();
        Checks.due(0, b::keptCount);
    }

    @Says("A script without an error replaces everything: the text and the shelf are empty before its first command.")
    static void promise04_nothingOfAnEarlierScriptIsLeft() {
        String head = "letters 9;text hi;keep;";
        for (String earlier : new String[] {head + "keep;", head + "repeat 2(repeat 3(", head + "drop 2;remove 1;"}) {
            LyndonBench b = new LyndonBench();
            Checks.load(b, earlier);
            b.runScript();
            Checks.load(b, "letters 2;append b;keep;repeat 1(repeat 2(append a;););");
            Checks.due(earlier, 3, b::runScript);
            Checks.due(earlier, "2 baa [b]", () -> b.letters() + " " + Checks.text(b) + " [" + Checks.shelf(b) + "]");
            Checks.load(b, "letters 2;join;");
            Checks.due(earlier, "-1 3 14", () -> b.runScript() + " " + b.scriptErrorKind() + " "
                + b.scriptErrorOffset());
        }
    }

    @Says("A script without an error replaces everything: the text and the shelf are empty before its first command.")
    static void promise04_lettersMayBecomeFewerThanTheOldTextHad() {
        LyndonBench b = ready("letters 2;");
        Checks.due(0, b::runScript);
        Checks.due("2  [] 1", () -> Checks.state(b));
    }

    @Says("The input buffer is empty afterwards in every case.")
    static void promise04_inputBufferIsEmptyAfterwards() {
        String[] scripts = {"", "letters 2;", "letters 2", "letters 1;", "letters 2;least;",
            "letters 2;repeat 1(repeat 1(repeat 1();););", LONG_REPEAT + "reverse;", times(600, "x")};
        for (String script : scripts) {
            LyndonBench b = ready(script);
            b.runScript();
            Checks.due(script, 0, () -> Checks.inputLength(b));
            Checks.due(script, 20, () -> b.append(0, 0, 0, 0, 0));
        }
    }

    private static LyndonBench much() {
        LyndonBench b = Checks.after("letters 4;text dab;keep;append abc;");
        b.saveSnapshot();
        b.writeFactors();
        for (int i = 0; i < 9; i++) {
            b.appendLetter('a' + i % 3);
        }
        return b;
    }

    @Says("If the script has an error, only the input buffer and the script error change.")
    static void promise04_anErrorChangesNothingElse() {
        String[] scripts = {"letters 2;text a;keep;text b;?", "letters 2;text ab;keep 0;drop 3;",
            "letters 2;text ab;keep;remove 0;join;", "letters 9;repeat 2(repeat 2(append i;repeat",
            LONG_REPEAT + "text b;"};
        for (int i = 0; i < scripts.length; i++) {
            LyndonBench b = much();
            Checks.load(b, scripts[i]);
            int kind = i + 1;
            Checks.due(-1, b::runScript);
            Checks.due(kind, b::scriptErrorKind);
            String error = " error " + kind + " at " + b.scriptErrorOffset();
            Checks.due(Checks.everything(much()).replace(" error 0 at -1", error), () -> Checks.everything(b));
        }
    }

    @Says("Returns the length of the text, or NONE if the script has an error.")
    static void promise04_returnsTheLengthOrNone() {
        Checks.due(0, () -> ready("letters 2;").runScript());
        Checks.due(1, () -> ready("letters 2;text b;").runScript());
        Checks.due(120, () -> ready("letters 2;text " + times(120, "b") + ";").runScript());
        Checks.due(-1, () -> ready("letters 2;text " + times(121, "b") + ";").runScript());
        Checks.due(-1, () -> ready("letters 2").runScript());
    }

    @Says("A script is a text of at most 600 bytes.")
    static void promise04_aScriptOf600Bytes() {
        String head = "letters 2;text ab;";
        right(head + times(582, " "), "ab[]");
        wrongAt(head + times(578, " ") + "keep#", 1);
        right(head + times(577, " ") + "keep;", "ab[ab]");
        wrongAt(head + times(581, "\n") + "#?", 1);
        right(times(582, " ") + head, "ab[]");
    }

    // ---- the grammar

    @Says("script = \"letters\" N \";\" { command \";\" }")
    static void promise04_theFirstStatementSetsTheLetters() {
        right("letters 2;", "[]");
        right("letters 9;", "[]");
        wrongAt("#", 1);
        wrongAt("#text a;", 1);
        wrongAt("#;", 1);
        wrongAt("letters #;", 1);
        wrongAt("letters 2#", 1);
        wrongAt("letters 3;#letters 3;", 1);
        wrongAt("letters 3;text a;#letters 3;", 1);
    }

    @Says("There are 2 to 9 letters, a, b and so on")
    static void promise04_theNumberOfLettersIs2To9() {
        for (int letters = 0; letters <= 999; letters++) {
            if (letters < 2 || letters > 9) {
                wrongAt("letters #" + letters + ";", 2);
            } else {
                right("letters " + letters + ";", "[]");
            }
        }
    }

    @Says("\"keep\" [ N ]")
    static void promise04_keepHasANumberOrNone() {
        right("letters 2;text ba;keep;keep 1;keep 0;keep;", "ba[ba a b ba]");
        wrongAt("letters 2;text ba;keep 0 #0;", 1);
        wrongAt("letters 2;text ba;keep #a;", 1);
        wrongAt("letters 2;text ba;keep#", 1);
        wrongAt("letters 2;text ba;keep 0#", 1);
    }

    @Says("\"repeat\" N \"(\" { command \";\" } \")\"")
    static void promise04_aRepeatMayBeEmpty() {
        right("letters 2;repeat 1();", "[]");
        right("letters 2;repeat 20 ( ) ; text a;", "a[]");
        right("letters 2;repeat 3(repeat 4(););text b;", "b[]");
        wrongAt("letters 2;repeat 1(#;);", 1);
        wrongAt("letters 2;repeat 1#);", 1);
        wrongAt("letters 2;repeat 1#)(;", 1);
        wrongAt("letters 2;repeat 1(#(;", 1);
        wrongAt("letters 2;repeat 1(reverse;#(;", 1);
        wrongAt("letters 2;repeat 1()#", 1);
        wrongAt("letters 2;repeat 1(#", 1);
        wrongAt("letters 2;#);", 1);
    }

    @Says("A token is a word (a maximal run of the letters a to z), a number (a maximal run of 1 to 3 digits)")
    static void promise04_tokensAreMaximalRuns() {
        wrongAt("letters 2;#texta;", 1);
        wrongAt("#letter s 2;", 1);
        right("letters2;text ab;drop1;", "a[]");
        right("letters 2;text b;append a;part 0 2;", "ba[]");
        wrongAt("letters 2;text ab;part 01#;", 1);
        right("letters 2;text ab;part 0 1;", "a[]");
        wrongAt("letters 2;text #az;", 2);
        wrongAt("letters 2;text a#`;", 1);
        wrongAt("letters 2;text a#{;", 1);
        wrongAt("letters 2;text ab;drop 1#/;", 1);
        wrongAt("letters 2;text ab;drop 1#:;", 1);
    }

    @Says("a number (a maximal run of 1 to 3 digits)")
    static void promise04_aNumberHasUpTo3Digits() {
        right("letters 2;text ab;drop 1;", "a[]");
        right("letters 2;text ab;drop 01;", "a[]");
        right("letters 2;text ab;drop 001;", "a[]");
        wrongAt("letters 2;text ab;drop #0001;", 1);
        wrongAt("letters 2;text ab;drop #00001;", 1);
        wrongAt("letters 2;text ab;drop #999;", 2);
        wrongAt("letters 2;text ab;drop #1000;", 1);
        right("letters 2;text ab;drop 000;", "ab[]");
    }

    @Says("Spaces (byte 32) and line feeds (byte 10) separate tokens and are otherwise ignored.")
    static void promise04_spacesAndLineFeeds() {
        right(" \n letters\n2\n;\n\ntext \n ab ; \n", "ab[]");
        right("letters 2 ;repeat\n2\n(\nappend\na\n;\n)\n;\n", "aa[]");
        wrongAt("letters 2;#\ttext a;", 1);
        wrongAt("letters 2;#\rtext a;", 1);
        wrongAt("letters 2;#\u000btext a;", 1);
        wrongAt("letters 2;#\u00a0text a;", 1);
        wrongAt("letters 2;text a #b;", 1);
        wrongAt("letters 2;text ab;drop 0 #1;", 1);
    }

    @Says("\"text\" makes the WORD the text, \"append\" appends it")
    static void promise04_textAndAppend() {
        right("letters 2;text a;text bb;", "bb[]");
        right("letters 2;append a;append bb;", "abb[]");
        wrongAt("letters 2;text#;", 1);
        wrongAt("letters 2;append#;", 1);
        right("letters 9;text bead;append head;", "beadhead[]");
    }

    @Says("keepFactor (with N) or keepText (without), removeKept and joinKept")
    static void promise04_theOtherCommandsStandForTheirMethods() {
        right("letters 3;text abcab;drop 2;", "abc[]");
        right("letters 3;text abcab;part 1 3;", "bc[]");
        right("letters 3;text abcab;rotate 2;", "cabab[]");
        right("letters 3;text abcab;reverse;", "bacba[]");
        right("letters 3;text cabab;least;", "ababc[]");
        right("letters 3;text c;least;", "c[]");
        right("letters 3;text ab;next 2;", "ac[]");
        right("letters 3;text cab;keep 1;", "cab[ab]");
        right("letters 3;text " + times(118, "c") + "ab;keep 118;", times(118, "c") + "ab[ab]");
        right("letters 3;text cab;keep;", "cab[cab]");
        right("letters 3;text cab;keep;keep 0;remove 0;", "cab[c]");
        right("letters 3;text ab;keep;text b;keep;join;", "bab[ab b]");
    }

    @Says("\"repeat\" executes the commands in its parentheses N times (1 to 20).")
    static void promise04_repeatsOf1To20Times() {
        for (int n = 0; n <= 999; n++) {
            if (n < 1 || n > 20) {
                wrongAt("letters 2;repeat #" + n + "(append ab;);", 2);
            } else {
                right("letters 2;repeat " + n + "(append ab;);", times(n, "ab") + "[]");
            }
        }
    }

    @Says("\"repeat\" executes the commands in its parentheses N times (1 to 20).")
    static void promise04_repeatsInRepeats() {
        right("letters 2;repeat 3(append a;repeat 2(append b;);append a;);", times(3, "abba") + "[]");
        right("letters 2;repeat 2(repeat 3(append a;);repeat 1(append b;););", "aaabaaab[]");
    }

    // ---- where an error is reported

    @Says("the offset of the first byte of its token, also if it is found in a later repetition")
    static void promise23_anErrorInALaterRepetition() {
        wrongAt("letters 2;text ab;repeat 3(drop #1;);", 2);
        wrongAt("letters 2;text a;repeat 9(keep#;);", 3);
        wrongAt("letters 2;repeat 20(append abaaaab#;);", 3);
        wrongAt("letters 2;repeat 20(reverse;repeat 10(#reverse;););", 5);
        wrongAt("letters 2;text aaab;repeat 2(repeat 3(drop #1;););", 2);
    }

    @Says("The first error that is found while the commands are executed is reported")
    static void promise23_theFirstOfSeveralErrors() {
        wrongAt("letters 2;least#;?", 3);
        wrongAt("letters 2;drop #1;least;", 2);
        wrongAt("letters 2;#?least;", 1);
        wrongAt("letters 2;text ab;repeat 2(drop 2#?);", 1);
        wrongAt("letters 2;text ab;repeat 2(drop #2;)?", 2);
        wrongAt("letters 2;text ab;repeat 2(drop 1;)#?", 1);
        wrongAt("letters 2;drop #1 1;", 2);
        wrongAt("letters 2;text #c c;", 2);
    }

    @Says("if several kinds of error apply to one token, the smallest kind is reported")
    static void promise22_theSmallestKindOfOneToken() {
        wrongAt(LONG_REPEAT + "#wrong;", 1);
        wrongAt(LONG_REPEAT + "#least;", 5);
        wrongAt("letters 2;repeat 1(repeat 1(#repeat 0();););", 4);
        wrongAt(LONG_REPEAT + "repeat 1(repeat 1(#repeat 1();););", 4);
        wrongAt("letters 2;repeat #0000();", 1);
        wrongAt("letters 2;least#", 1);
        wrongAt("letters 2;least #1;", 1);
        wrongAt("letters 2;text " + times(121, "a") + "#", 1);
        wrongAt("letters 2;text #" + times(121, "c") + ";", 2);
    }

    @Says("1, a token that the grammar does not allow at this place")
    static void promise22_kind1ATokenAtAWrongPlace() {
        String[] commands = {"text #;", "text #1;", "text a #a;", "append #(;", "drop #a;", "drop #;", "drop 0 #0;",
            "part #;", "part 0 #;", "part 0 0 #0;", "part #a;", "rotate #;", "rotate 0 #);", "reverse #0;",
            "reverse #reverse;", "least #a;", "next #;", "next #(;", "keep #keep;", "keep 0 #a;", "remove #;",
            "remove #a;", "join #0;", "repeat #;", "repeat #(", "repeat 2 #;", "repeat 2 #append b;",
            "repeat 2(append b#)", "repeat 2(append b;) #append b;", "#0;", "#(", "#)", "#;", "#keptext;"};
        for (String command : commands) {
            wrongAt("letters 2;text ab;keep;" + command, 1);
        }
    }

    @Says("a run of more than 3 digits")
    static void promise22_kind1ARunOfMoreThan3Digits() {
        right("letters 002;", "[]");
        wrongAt("letters #0002;", 1);
        wrongAt("letters 2;text a;next #0120;", 1);
        wrongAt("letters 2;text a;keep #0000;", 1);
        wrongAt("letters 2;text a;keep #01234567890;", 1);
        wrongAt("letters 2;part 0 #" + times(500, "0") + ";", 1);
        wrongAt("letters 2;text #0000;", 1);
    }

    @Says("a byte that does not begin a token")
    static void promise22_kind1AByteThatBeginsNoToken() {
        for (int value = 0; value < 256; value++) {
            boolean begins = value >= 'a' && value <= 'z' || value >= '0' && value <= '9' || value == '('
                || value == ')' || value == ';' || value == ' ' || value == '\n';
            if (!begins) {
                ScriptTests.wrong("letters 2;" + (char) value, 1, 10);
                ScriptTests.wrong("letters 2;text a" + (char) value + "b;", 1, 16);
                ScriptTests.wrong("letters 2;drop 0" + (char) value + ";", 1, 16);
            }
        }
    }

    @Says("or the end of the text inside a statement (the offset is then the length of the text)")
    static void promise23_theEndInsideAStatement() {
        String[] beginnings = {"", "  ", "letters", "letters 2", "letters 2 ", "letters 2;text", "letters 2;text a",
            "letters 2;text a \n ", "letters 2;drop", "letters 2;part 0", "letters 2;part 0 0", "letters 2;keep",
            "letters 2;least", "letters 2;join", "letters 2;reverse", "letters 2;repeat", "letters 2;repeat 2",
            "letters 2;repeat 2(", "letters 2;repeat 2(reverse", "letters 2;repeat 2(reverse;",
            "letters 2;repeat 2(reverse;)", "letters 2;repeat 2(reverse;) ", "letters 2;repeat 2(repeat 2();"};
        for (String beginning : beginnings) {
            ScriptTests.wrong(beginning, 1, beginning.length());
        }
        String longest = "letters 2;text ab;" + times(582, " ");
        ScriptTests.wrong(longest.substring(0, 595) + "least", 1, 600);
    }

    @Says("2, a number that is out of its range (as for the method) or does not exist")
    static void promise22_kind2DropAndRotate() {
        for (String command : new String[] {"drop", "rotate"}) {
            for (int n = 0; n <= 999; n++) {
                if (n > 3) {
                    wrongAt("letters 2;text aab;" + command + " #" + n + ";", 2);
                }
            }
            wrongAt("letters 2;" + command + " #1;", 2);
            right("letters 2;" + command + " 0;", "[]");
            right("letters 2;text aab;" + command + " 3;", command.equals("drop") ? "[]" : "aab[]");
        }
    }

    @Says("2, a number that is out of its range (as for the method) or does not exist")
    static void promise22_kind2Part() {
        right("letters 2;text aab;part 0 3;", "aab[]");
        right("letters 2;text aab;part 3 3;", "[]");
        wrongAt("letters 2;text aab;part 0 #4;", 2);
        wrongAt("letters 2;text aab;part 2 #1;", 2);
        wrongAt("letters 2;text aab;part 3 #2;", 2);
        wrongAt("letters 2;text aab;part 3 #4;", 2);
        wrongAt("letters 2;part 0 #1;", 2);
    }

    @Says("2, a number that is out of its range (as for the method) or does not exist")
    static void promise22_kind2Next() {
        right("letters 2;text a;next 1;", "b[]");
        right("letters 2;text a;next 120;", times(119, "a") + "b[]");
        wrongAt("letters 2;text a;next #0;", 2);
        wrongAt("letters 2;text a;next #121;", 2);
        wrongAt("letters 2;next #121;", 2);
    }

    @Says("2, a number that is out of its range (as for the method) or does not exist")
    static void promise22_kind2FactorsAndKeptWordsThatDoNotExist() {
        right("letters 2;text baa;keep 2;", "baa[a]");
        wrongAt("letters 2;text baa;keep #3;", 2);
        wrongAt("letters 2;text baa;keep #999;", 2);
        wrongAt("letters 2;keep #0;", 2);
        right("letters 2;text b;keep;text a;keep;remove 1;", "a[b]");
        wrongAt("letters 2;text a;keep;keep;remove #2;", 2);
        wrongAt("letters 2;text a;keep;remove 0;remove #0;", 2);
        wrongAt("letters 2;remove #0;", 2);
    }

    @Says("and a WORD with a byte that is not one of the letters")
    static void promise22_kind2AWordWithAnotherByte() {
        for (int letters = 2; letters <= 9; letters++) {
            String last = String.valueOf((char) ('a' + letters - 1));
            String other = String.valueOf((char) ('a' + letters));
            String head = "letters " + letters + ";";
            right(head + "text a" + last + ";append " + last + ";", "a" + last + last + "[]");
            wrongAt(head + "text #" + other + ";", 2);
            wrongAt(head + "text #a" + last + other + ";", 2);
            wrongAt(head + "text a;append #" + other + last + ";", 2);
            wrongAt(head + "append #z;", 2);
        }
    }

    @Says("3, the semicolon behind a command whose method would throw an IllegalStateException")
    static void promise22_kind3AtTheSemicolon() {
        wrongAt("letters 2;least #;", 3);
        wrongAt("letters 2;next 3#;", 3);
        wrongAt("letters 2;text ba;next 3 \n #;", 3);
        wrongAt("letters 2;text b;next 3#;", 3);
        wrongAt("letters 2;text aab;next 2#;", 3);
        wrongAt("letters 2;keep#;", 3);
        wrongAt("letters 2;text " + times(41, "a") + ";keep#;", 3);
        wrongAt("letters 2;text " + times(40, "a") + "b;keep 0#;", 3);
        wrongAt("letters 2;text a;" + times(8, "keep;") + "keep#;", 3);
        wrongAt("letters 2;text a;" + times(8, "keep;") + "keep 0#;", 3);
        wrongAt("letters 2;join#;", 3);
        wrongAt("letters 2;text a;keep;text " + times(40, "a") + ";keep;keep;keep;join#;", 3);
        right("letters 2;text " + times(40, "a") + ";keep;keep;keep;join;", times(120, "a") + "[" + times(40, "a")
            + " " + times(40, "a") + " " + times(40, "a") + "]");
    }

    @Says("and behind \"text\" and \"append\" if the text would have more than 120 letters")
    static void promise22_kind3ATextOfMoreThan120Letters() {
        right("letters 2;text " + times(120, "b") + ";", times(120, "b") + "[]");
        wrongAt("letters 2;text " + times(121, "b") + "#;", 3);
        right("letters 2;text " + times(118, "b") + ";append aa;", times(118, "b") + "aa[]");
        wrongAt("letters 2;text " + times(118, "b") + ";append aaa #;", 3);
        wrongAt("letters 2;text " + times(120, "b") + ";append a#;", 3);
        right("letters 2;append " + times(120, "b") + ";text a;", "a[]");
        wrongAt("letters 2;append " + times(121, "b") + "#;", 3);
        wrongAt("letters 2;text " + times(580, "b") + "#;", 3);
    }

    @Says("4, the word \"repeat\" inside two other repeats")
    static void promise22_kind4ARepeatInTwoRepeats() {
        right("letters 2;repeat 1(repeat 1(append a;););", "a[]");
        wrongAt("letters 2;repeat 1(repeat 1(#repeat 1(append a;);););", 4);
        wrongAt("letters 2;repeat 1(repeat 1(append a;#repeat", 4);
        wrongAt("letters 2;repeat 1(repeat 1(append a;#repeat;", 4);
        right("letters 2;repeat 1(repeat 1();repeat 1();repeat 1(););repeat 1(repeat 1(););", "[]");
    }

    @Says("5, the first word of the command that would be the 201st one to be executed")
    static void promise22_kind5The201stCommand() {
        right("letters 2;repeat 20(repeat 10(reverse;););", "[]");
        wrongAt("letters 2;repeat 20(repeat 10(reverse;););#reverse;", 5);
        wrongAt("letters 2;repeat 20(repeat 10(reverse;););#keep 9;", 5);
        wrongAt("letters 2;repeat 20(repeat 10(reverse;););#drop", 5);
        wrongAt("letters 2;repeat 20(repeat 11(#reverse;););", 5);
        right("letters 2;repeat 19(repeat 10(reverse;););repeat 10(reverse;);", "[]");
        right("letters 2;text a;repeat 19(repeat 10(reverse;););repeat 9(reverse;);", "a[]");
        wrongAt("letters 2;text a;repeat 19(repeat 10(reverse;););repeat 10(#reverse;);", 5);
    }

    @Says("(a \"repeat\" itself does not count)")
    static void promise22_kind5RepeatsDoNotCount() {
        right("letters 2;repeat 20(repeat 1();repeat 10(reverse;);repeat 1(););", "[]");
        right(LONG_REPEAT + "repeat 20(repeat 20(););", "[]");
        wrongAt(LONG_REPEAT + "repeat 1(#reverse;);", 5);
        right("letters 2;repeat 20(" + times(30, "repeat 20();") + ");", "[]");
        wrongAt(LONG_REPEAT + "repeat #0();", 2);
    }

    // ---- scriptErrorKind and scriptErrorOffset

    @Says("or 0 if it had no error or no script was run")
    static void promise22_0IfNoScriptWasRun() {
        LyndonBench b = new LyndonBench();
        Checks.due(0, b::scriptErrorKind);
        Checks.load(b, "x");
        b.readText();
        Checks.due(0, b::scriptErrorKind);
    }

    @Says("or 0 if it had no error or no script was run")
    static void promise22_0IfTheLatestScriptHadNoError() {
        LyndonBench b = ready("letters 2;?");
        b.runScript();
        Checks.due(1, b::scriptErrorKind);
        Checks.load(b, "letters 2;");
        Checks.due(1, b::scriptErrorKind);
        b.runScript();
        Checks.due(0, b::scriptErrorKind);
    }

    @Says("Returns the kind (1 to 5) of the error of the latest script")
    static void promise22_theLatestScriptCounts() {
        String[] scripts = {"letters 2", "letters 2;drop 1;", "letters 2;join;",
            "letters 2;repeat 1(repeat 1(repeat 1();););", LONG_REPEAT + "join;"};
        LyndonBench b = new LyndonBench();
        for (int i = 0; i < scripts.length; i++) {
            int kind = i + 1;
            Checks.load(b, scripts[i]);
            b.runScript();
            Checks.due(kind, b::scriptErrorKind);
        }
        b.appendLetter('a');
        b.undo();
        b.saveSnapshot();
        b.restoreSnapshot();
        b.writeFactors();
        Checks.due(5, b::scriptErrorKind);
        Checks.due(LONG_REPEAT.length(), b::scriptErrorOffset);
    }

    @Says("Returns the offset of the error of the latest script, or NONE if scriptErrorKind() is 0.")
    static void promise23_noneIfThereIsNoError() {
        LyndonBench b = new LyndonBench();
        Checks.due(-1, b::scriptErrorOffset);
        Checks.load(b, "letters 2;drop 1;");
        b.runScript();
        Checks.due(15, b::scriptErrorOffset);
        Checks.load(b, "letters 2;drop 0;");
        b.runScript();
        Checks.due(-1, b::scriptErrorOffset);
    }

    @Says("Returns the offset of the error of the latest script, or NONE if scriptErrorKind() is 0.")
    static void promise23_offsetsFrom0To600() {
        wrongAt("#", 1);
        for (int offset = 10; offset < 600; offset++) {
            wrongAt("letters 2;" + times(offset - 10, " ") + "#?", 1);
        }
        wrongAt("letters 2" + times(591, " ") + "#", 1);
    }
}
