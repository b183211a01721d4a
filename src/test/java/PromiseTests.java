import java.util.function.Consumer;

/** Each promise of the document by its number: ordinary inputs, the edges it names, and wrong inputs. */
public final class PromiseTests {
    private static final String ILLEGAL = Checks.ILLEGAL;
    private static final String STATE = Checks.STATE;
    private static final String INDEX = Checks.INDEX;
    private static final String NO_ELEMENT = Checks.NO_ELEMENT;

    private static int promise = 0;

    public static void main(String[] args) {
        input();
        script();
        changesOfLetters();
        changesOfTheText();
        next();
        shelfChanges();
        undoOfEach();
        undo();
        snapshot();
        text();
        factors();
        hypothetical();
        ranks();
        lyndonAndNecklaces();
        rotationsAndPeriods();
        counts();
        bruijn();
        shelf();
        means();
        report();
        dearest();
        Checks.end();
    }

    private static void due(String what, Object want, Checks.Call call) {
        Checks.due("promise " + promise + ": " + what, want, call);
    }

    private static String times(int count, String part) {
        return Checks.times(count, part);
    }

    private static String throwsAll(String name, Checks.Call... calls) {
        for (Checks.Call call : calls) {
            String got = String.valueOf(Checks.answerOf(call));
            if (!got.equals(name)) {
                return got;
            }
        }
        return name;
    }

    private static void input() {
        promise = 1;
        LyndonBench b = new LyndonBench();
        due("the state", "3 acabaabaccabab [abac ab] 0", () -> Checks.state(b));
        due("the report is empty", -1, () -> b.reportByte(0));
        due("no script error", "0 -1", () -> b.scriptErrorKind() + " " + b.scriptErrorOffset());
        due("nothing to undo", -1, b::undo);
        due("no snapshot", NO_ELEMENT, b::restoreSnapshot);
        due("as by its script", "3 acabaabaccabab [abac ab] 1", () ->
            Checks.state(Checks.after("letters 3; text abacabaabacc; keep 0; keep 1; append ab; rotate 2;")));
        due("the input is empty", ILLEGAL, () -> b.truncateInput(1));

        promise = 2;
        due("20 bytes", 20, () -> b.append(0x61626364, 0x65666768, 0x69010203, 0x7f80feff, -1));
        due("40 bytes", 40, () -> b.append(0, 0, 0, 0, 0));
        LyndonBench c = new LyndonBench();
        c.setLetters(9);
        c.append(0x61626364, 0x65666768, 0x69686766, 0x65646362, 0x61626369);
        due("the most significant byte first", 20, c::readText);
        due("the bytes", "abcdefghihgfedcbabci", () -> Checks.text(c));
        for (int i = 1; i <= 30; i++) {
            int length = 20 * i;
            due("up to 600", length, () -> c.append(0x61616161, 0, 0, 0, 0));
        }
        due("not more than 600", -1, () -> c.append(0, 0, 0, 0, 0));
        due("it stays 600", 600, () -> c.truncateInput(600));
        c.truncateInput(581);
        due("581 and 20 are too many", -1, () -> c.append(0, 0, 0, 0, 0));
        c.truncateInput(580);
        due("580 and 20 are not", 600, () -> c.append(0, 0, 0, 0, 0));

        promise = 3;
        due("wrong lengths", ILLEGAL, () -> throwsAll(ILLEGAL, () -> b.truncateInput(-1), () -> b.truncateInput(41),
            () -> b.truncateInput(Integer.MIN_VALUE), () -> b.truncateInput(Integer.MAX_VALUE)));
        due("its own length", 40, () -> b.truncateInput(40));
        due("a shorter one", 3, () -> b.truncateInput(3));
        due("not back", ILLEGAL, () -> b.truncateInput(4));
        due("what is left", 3, b::readText);
        due("0", 0, () -> b.truncateInput(0));
        LyndonBench d = new LyndonBench();
        Checks.load(d, "abcabc");
        d.truncateInput(2);
        d.append(0x63000000, 0, 0, 0, 0);
        d.readText();
        due("appends behind the cut", "abc", () -> Checks.text(d));
    }

    private static void script() {
        promise = 4;
        LyndonBench b = new LyndonBench();
        Checks.load(b, "letters 4;text abdc;keep;append d;");
        due("the length", 5, b::runScript);
        due("everything is replaced", "4 abdcd [abdc] 1", () -> Checks.state(b));
        due("the input is empty", 20, () -> b.append(0, 0, 0, 0, 0));
        due("bytes 0 are an error", "-1 1 0", () -> b.runScript() + " " + b.scriptErrorKind() + " "
            + b.scriptErrorOffset());
        due("which changes nothing", "4 abdcd [abdc] 1", () -> Checks.state(b));
        due("the input is empty then", 20, () -> b.append(0, 0, 0, 0, 0));
        due("undone", "0 3 acabaabaccabab [abac ab] 0", () -> b.undo() + " " + Checks.state(b));
        due("the error stays", "1 0", () -> b.scriptErrorKind() + " " + b.scriptErrorOffset());
        Checks.load(b, "letters 2;");
        due("an empty text", 0, b::runScript);
        promise = 22;
        due("no error any more", 0, b::scriptErrorKind);
        promise = 23;
        due("no offset any more", -1, b::scriptErrorOffset);
        due("the state", "2  [] 1", () -> Checks.state(b));
        Checks.load(b, "letters 2;text ab;text ac;");
        b.runScript();
        promise = 22;
        due("kind", 2, b::scriptErrorKind);
        promise = 23;
        due("offset", 23, b::scriptErrorOffset);
        due("the failed one is not remembered", "2  [] 1", () -> Checks.state(b));
    }

    private static void changesOfLetters() {
        promise = 5;
        LyndonBench b = new LyndonBench();
        due("wrong numbers", ILLEGAL, () -> throwsAll(ILLEGAL, () -> b.setLetters(1), () -> b.setLetters(10),
            () -> b.setLetters(0), () -> b.setLetters(-3), () -> b.setLetters(Integer.MAX_VALUE)));
        due("c is used", STATE, () -> b.setLetters(2));
        due("nothing changed", 0, b::undoCount);
        due("3 to 9", 3, () -> b.setLetters(9));
        due("9 to 9", 9, () -> b.setLetters(9));
        due("9 to 3", 9, () -> b.setLetters(3));
        due("changes", 3, b::undoCount);
        b.cutPart(2, 6);
        due("c is still kept", STATE, () -> b.setLetters(2));
        b.removeKept(0);
        due("c is not used", 3, () -> b.setLetters(2));
        due("the state", "2 abaa [ab] 6", () -> Checks.state(b));
        LyndonBench c = Checks.with(9, "i");
        due("i is used", STATE, () -> c.setLetters(8));
        LyndonBench d = Checks.with(9, "h");
        due("i is not", 9, () -> d.setLetters(8));

        promise = 6;
        LyndonBench r = new LyndonBench();
        due("no input", 0, r::readText);
        due("an empty text", "3  [abac ab] 1", () -> Checks.state(r));
        Checks.load(r, "abcdabc");
        due("up to d", 3, r::readText);
        due("the input is empty", ILLEGAL, () -> r.truncateInput(1));
        due("the text", "abc", () -> Checks.text(r));
        Checks.load(r, times(120, "b"));
        due("120", 120, r::readText);
        Checks.load(r, times(121, "b"));
        due("121", STATE, r::readText);
        due("the input stays", 121, () -> r.truncateInput(121));
        due("the text stays", times(120, "b"), () -> Checks.text(r));
        Checks.load(r, times(120, "a") + "d" + times(50, "a"));
        due("120 and a d", 120, r::readText);
        Checks.load(r, "\u00ff" + "a");
        due("a byte of 255", 0, r::readText);
        Checks.load(r, "ab\u00e1");
        due("a byte of 225", 2, r::readText);
        Checks.load(r, times(600, "a"));
        due("600", STATE, r::readText);
        Checks.load(r, "Ab");
        due("a capital", 0, r::readText);

        promise = 7;
        LyndonBench a = Checks.with(2, times(119, "a"));
        due("wrong letters", ILLEGAL, () -> throwsAll(ILLEGAL, () -> a.appendLetter(96), () -> a.appendLetter(99),
            () -> a.appendLetter(-1), () -> a.appendLetter(0), () -> a.appendLetter(97 + 256)));
        due("the 120th", 1, () -> a.appendLetter('b'));
        due("121 are too many", STATE, () -> a.appendLetter('a'));
        due("the letter is looked at first", ILLEGAL, () -> a.appendLetter('c'));
        due("nothing changed", 2, a::undoCount);
        LyndonBench e = Checks.with(3, "");
        due("c", 1, () -> e.appendLetter('c'));
        due("cb", 2, () -> e.appendLetter('b'));
        due("cbb", 3, () -> e.appendLetter('b'));
        due("cbbc", 2, () -> e.appendLetter('c'));
        due("the text", "cbbc", () -> Checks.text(e));
    }

    private static void changesOfTheText() {
        LyndonBench b = new LyndonBench();
        promise = 8;
        due("wrong counts", ILLEGAL, () -> throwsAll(ILLEGAL, () -> b.dropLast(-1), () -> b.dropLast(15),
            () -> b.dropLast(Integer.MAX_VALUE), () -> b.dropLast(Integer.MIN_VALUE)));
        due("none", 3, () -> b.dropLast(0));
        due("a change all the same", 1, b::undoCount);
        due("ten", 2, () -> b.dropLast(10));
        due("the text", "acab", () -> Checks.text(b));
        due("all", 0, () -> b.dropLast(4));
        due("of none none", 0, () -> b.dropLast(0));
        due("of none one", ILLEGAL, () -> b.dropLast(1));

        promise = 9;
        LyndonBench c = new LyndonBench();
        due("wrong parts", ILLEGAL, () -> throwsAll(ILLEGAL, () -> c.cutPart(-1, 3), () -> c.cutPart(2, 1),
            () -> c.cutPart(0, 15), () -> c.cutPart(15, 15), () -> c.cutPart(15, 14),
            () -> c.cutPart(Integer.MIN_VALUE, Integer.MAX_VALUE), () -> c.cutPart(0, Integer.MIN_VALUE)));
        due("all", 14, () -> c.cutPart(0, 14));
        due("a part", 4, () -> c.cutPart(7, 11));
        due("the text", "acca", () -> Checks.text(c));
        due("none at the end", 0, () -> c.cutPart(4, 4));
        due("none of none", 0, () -> c.cutPart(0, 0));
        due("changes", 4, c::undoCount);

        promise = 10;
        LyndonBench d = Checks.with(4, "abcd");
        due("wrong counts", ILLEGAL, () -> throwsAll(ILLEGAL, () -> d.rotate(-1), () -> d.rotate(5),
            () -> d.rotate(Integer.MAX_VALUE), () -> d.rotate(Integer.MIN_VALUE)));
        due("1", 2, () -> d.rotate(1));
        due("the text", "bcda", () -> Checks.text(d));
        due("2", 2, () -> d.rotate(2));
        due("the text", "dabc", () -> Checks.text(d));
        due("0", 2, () -> d.rotate(0));
        due("all", 2, () -> d.rotate(4));
        due("the text", "dabc", () -> Checks.text(d));
        LyndonBench e = Checks.with(2, "");
        due("nothing", 0, () -> e.rotate(0));
        due("a letter of nothing", ILLEGAL, () -> e.rotate(1));

        promise = 11;
        due("dabc", 3, d::reverse);
        due("the text", "cbad", () -> Checks.text(d));
        due("nothing", 0, e::reverse);
        LyndonBench f = Checks.with(3, "abbac");
        due("abbac", 3, f::reverse);
        due("the text", "cabba", () -> Checks.text(f));

        promise = 12;
        due("cabba", 1, f::rotateToLeast);
        due("the text", "abbac", () -> Checks.text(f));
        due("nothing", STATE, e::rotateToLeast);
        LyndonBench g = Checks.with(2, "baba");
        due("the smallest number", 1, g::rotateToLeast);
        due("already there", 0, g::rotateToLeast);
        due("the text", "abab", () -> Checks.text(g));
    }

    private static String nextOf(int letters, String text, int most) {
        LyndonBench b = Checks.with(letters, text);
        Object length = Checks.answerOf(() -> b.nextLyndon(most));
        return length + " " + Checks.text(b);
    }

    private static void next() {
        promise = 13;
        due("a, 1", "1 b", () -> nextOf(2, "a", 1));
        due("a, 4", "4 aaab", () -> nextOf(2, "a", 4));
        due("aabb, 4", "2 ab", () -> nextOf(2, "aabb", 4));
        due("ab, 3", "3 abb", () -> nextOf(2, "ab", 3));
        due("abb, 3", "1 b", () -> nextOf(2, "abb", 3));
        due("aab, 7", "7 aabaabb", () -> nextOf(2, "aab", 7));
        due("acc, 3", "1 b", () -> nextOf(3, "acc", 3));
        due("ai, 2", "1 b", () -> nextOf(9, "ai", 2));
        due("b is not the last of three", "120 " + times(119, "b") + "c", () -> nextOf(3, "b", 120));
        due("the last one", STATE + " b", () -> nextOf(2, "b", 5));
        due("the last one of nine", STATE + " i", () -> nextOf(9, "i", 120));
        due("empty", STATE + " ", () -> nextOf(2, "", 5));
        due("no Lyndon word", STATE + " aa", () -> nextOf(2, "aa", 5));
        due("no Lyndon word", STATE + " ba", () -> nextOf(2, "ba", 5));
        due("more letters", STATE + " aab", () -> nextOf(2, "aab", 2));
        due("as many letters", "2 ab", () -> nextOf(2, "aab", 3));
        due("0", ILLEGAL + " aab", () -> nextOf(2, "aab", 0));
        due("121", ILLEGAL + " aab", () -> nextOf(2, "aab", 121));
        due("the range is looked at first", ILLEGAL + " ba", () -> nextOf(2, "ba", -1));
        due("a full text", "119 " + times(118, "a") + "b", () -> nextOf(2, times(119, "a") + "b", 120));
    }

    private static void shelfChanges() {
        promise = 14;
        LyndonBench b = new LyndonBench();
        due("wrong factors", INDEX, () -> throwsAll(INDEX, () -> b.keepFactor(-1), () -> b.keepFactor(3),
            () -> b.keepFactor(Integer.MAX_VALUE), () -> b.keepFactor(Integer.MIN_VALUE)));
        due("the last factor", 3, () -> b.keepFactor(2));
        due("the shelf", "abac ab aabaccabab", () -> Checks.shelf(b));
        for (int i = 4; i <= 8; i++) {
            int count = i;
            due("up to 8", count, () -> b.keepFactor(0));
        }
        due("8 are kept", STATE, () -> b.keepFactor(0));
        due("the factor is looked at first", INDEX, () -> b.keepFactor(3));
        due("of no factor", INDEX, () -> Checks.with(2, "").keepFactor(0));
        due("40 letters", 1, () -> Checks.with(2, times(39, "a") + "b").keepFactor(0));
        due("41 letters", STATE, () -> Checks.with(2, times(40, "a") + "b").keepFactor(0));
        due("a short factor of a long text", 1, () -> Checks.with(2, times(60, "a")).keepFactor(59));

        promise = 15;
        due("8 are kept", STATE, b::keepText);
        due("empty", STATE, () -> Checks.with(2, "").keepText());
        due("40 letters", 1, () -> Checks.with(2, times(40, "b")).keepText());
        due("41 letters", STATE, () -> Checks.with(2, times(41, "b")).keepText());
        LyndonBench c = new LyndonBench();
        due("the text", 3, c::keepText);
        due("the shelf", "abac ab acabaabaccabab", () -> Checks.shelf(c));
        due("the text stays", "acabaabaccabab", () -> Checks.text(c));

        promise = 16;
        due("wrong numbers", INDEX, () -> throwsAll(INDEX, () -> c.removeKept(-1), () -> c.removeKept(3),
            () -> c.removeKept(Integer.MAX_VALUE), () -> c.removeKept(Integer.MIN_VALUE)));
        due("the middle one", 2, () -> c.removeKept(1));
        due("the shelf", "abac acabaabaccabab", () -> Checks.shelf(c));
        due("the first one", 1, () -> c.removeKept(0));
        due("the shelf", "acabaabaccabab", () -> Checks.shelf(c));
        due("the last one", 0, () -> c.removeKept(0));
        due("none is left", INDEX, () -> c.removeKept(0));

        promise = 17;
        due("none is kept", STATE, c::joinKept);
        LyndonBench d = Checks.after("letters 3;text ab;keep;text b;keep;text aba;keep;text b;keep;text ca;keep;");
        due("joined", 9, d::joinKept);
        due("from the greatest one", "cabbabaab", () -> Checks.text(d));
        due("the shelf stays", "ab b aba b ca", () -> Checks.shelf(d));
        LyndonBench e = Checks.after("letters 2;text " + times(40, "a") + ";keep;keep;keep;");
        due("120", 120, e::joinKept);
        LyndonBench f = Checks.after("letters 2;text " + times(40, "a") + ";keep;keep;keep;text b;keep;");
        due("121", STATE, f::joinKept);
        due("nothing changed", "b", () -> Checks.text(f));
        LyndonBench g = Checks.after("letters 2;text ab;keep;keep;keep;keep;keep;keep;keep;keep;text " + times(120, "b")
            + ";");
        due("eight", 16, g::joinKept);
        due("one", 2, () -> Checks.after("letters 2;text ba;keep;text a;").joinKept());
        due("not behind the old text", times(8, "ab"), () -> Checks.text(g));
    }

    /** One call of a change on a new bench, the number of changes it counts as, and the state when it is undone. */
    private static void undone(int number, Consumer<LyndonBench> change) {
        promise = number;
        LyndonBench b = new LyndonBench();
        Checks.load(b, "letters 4;text bca;");
        b.cutPart(4, 14);
        String before = Checks.state(b);
        change.accept(b);
        due("counts as a change", 2, b::undoCount);
        due("is undone", "1 " + before, () -> b.undo() + " " + Checks.state(b));
    }

    private static void undoOfEach() {
        undone(4, b -> b.runScript());
        undone(5, b -> b.setLetters(5));
        undone(6, b -> b.readText());
        undone(7, b -> b.appendLetter('c'));
        undone(8, b -> b.dropLast(3));
        undone(9, b -> b.cutPart(1, 5));
        undone(10, b -> b.rotate(3));
        undone(11, b -> b.reverse());
        undone(12, b -> b.rotateToLeast());
        undone(13, b -> b.nextLyndon(20));
        undone(14, b -> b.keepFactor(0));
        undone(15, b -> b.keepText());
        undone(16, b -> b.removeKept(0));
        undone(17, b -> b.joinKept());
    }

    private static void undo() {
        promise = 18;
        LyndonBench b = new LyndonBench();
        due("nothing", -1, b::undo);
        b.appendLetter('a');
        b.setLetters(5);
        b.removeKept(0);
        b.keepText();
        due("the state", "5 acabaabaccababa [ab acabaabaccababa] 4", () -> Checks.state(b));
        due("keepText", "3 5 acabaabaccababa [ab] 3", () -> b.undo() + " " + Checks.state(b));
        due("removeKept", "2 5 acabaabaccababa [abac ab] 2", () -> b.undo() + " " + Checks.state(b));
        due("setLetters", "1 3 acabaabaccababa [abac ab] 1", () -> b.undo() + " " + Checks.state(b));
        due("appendLetter", "0 3 acabaabaccabab [abac ab] 0", () -> b.undo() + " " + Checks.state(b));
        due("no more", -1, b::undo);

        promise = 19;
        String[] texts = new String[13];
        for (int i = 0; i < 13; i++) {
            texts[i] = Checks.text(b);
            int want = Math.min(i, 8);
            due("after " + i + " changes", want, b::undoCount);
            b.rotate(1);
        }
        for (int i = 12; i >= 5; i--) {
            int left = i - 5;
            String text = texts[i];
            due("the latest 8", left + " " + text, () -> b.undo() + " " + Checks.text(b));
        }
        due("the ninth is forgotten", -1, b::undo);
        due("and stays", texts[5], () -> Checks.text(b));
        b.reverse();
        due("a change after undoing", 1, b::undoCount);
        Checks.answerOf(() -> b.rotate(-1));
        Checks.answerOf(() -> b.dropLast(99));
        due("thrown calls don't count", 1, b::undoCount);
        b.saveSnapshot();
        b.writeFactors();
        due("nor do snapshots and reports", 1, b::undoCount);

        promise = 18;
        LyndonBench c = new LyndonBench();
        Checks.load(c, "abc");
        c.readText();
        c.writeFactors();
        c.append(0x61000000, 0, 0, 0, 0);
        Checks.load(c, "x");
        c.runScript();
        c.append(0x62620000, 0, 0, 0, 0);
        c.saveSnapshot();
        due("undoing readText", 0, c::undo);
        due("the text", "acabaabaccabab", () -> Checks.text(c));
        due("not the report", "abc", () -> Checks.report(c));
        due("not the script error", "1 0", () -> c.scriptErrorKind() + " " + c.scriptErrorOffset());
        due("not the input buffer", 20, () -> c.truncateInput(20));
        due("not the snapshot", 3, c::restoreSnapshot);
    }

    private static void snapshot() {
        promise = 20;
        LyndonBench b = new LyndonBench();
        due("none", NO_ELEMENT, b::restoreSnapshot);
        b.dropLast(10);
        due("its length", 4, b::saveSnapshot);
        due("no change", 1, b::undoCount);
        b.setLetters(4);
        b.removeKept(0);
        b.appendLetter('d');
        promise = 21;
        due("its length", 4, b::restoreSnapshot);
        due("the state", "3 acab [abac ab] 0", () -> Checks.state(b));
        due("nothing can be undone", -1, b::undo);
        b.keepText();
        due("again", 4, b::restoreSnapshot);
        due("it stays as it was", "3 acab [abac ab] 0", () -> Checks.state(b));
        promise = 20;
        b.dropLast(4);
        due("in place of the earlier one", 0, b::saveSnapshot);
        b.appendLetter('a');
        due("restored", "0 3  [abac ab] 0", () -> b.restoreSnapshot() + " " + Checks.state(b));
    }

    private static void text() {
        promise = 24;
        due("nine", 9, () -> Checks.with(9, "i").letters());
        due("two", 2, () -> Checks.with(2, "").letters());
        promise = 25;
        due("none", 0, () -> Checks.with(2, "").length());
        due("120", 120, () -> Checks.with(2, times(120, "ab").substring(0, 120)).length());
        promise = 26;
        LyndonBench b = Checks.with(9, "abi");
        due("letters", "97 98 105", () -> b.letterAt(0) + " " + b.letterAt(1) + " " + b.letterAt(2));
        due("none", "-1 -1 -1 -1", () -> b.letterAt(-1) + " " + b.letterAt(3) + " " + b.letterAt(Integer.MAX_VALUE)
            + " " + b.letterAt(Integer.MIN_VALUE));
        b.dropLast(1);
        due("not beyond a shortened text", -1, () -> b.letterAt(2));
        promise = 27;
        LyndonBench c = Checks.with(3, "abcabab");
        due("equal", 0, () -> c.compareParts(0, 2, 3, 5));
        due("a beginning is smaller", -1, () -> c.compareParts(0, 2, 0, 3));
        due("and greater", 1, () -> c.compareParts(0, 3, 3, 5));
        due("ab and c", -1, () -> c.compareParts(0, 2, 2, 3));
        due("abc and aba", 1, () -> c.compareParts(0, 3, 3, 6));
        due("the empty ones", 0, () -> c.compareParts(7, 7, 0, 0));
        due("the empty one and a", -1, () -> c.compareParts(7, 7, 0, 1));
        due("wrong parts", ILLEGAL, () -> throwsAll(ILLEGAL, () -> c.compareParts(-1, 2, 0, 1),
            () -> c.compareParts(0, 8, 0, 1), () -> c.compareParts(2, 1, 0, 1), () -> c.compareParts(0, 1, -1, 1),
            () -> c.compareParts(0, 1, 0, 8), () -> c.compareParts(0, 1, 4, 3), () -> c.compareParts(8, 8, 0, 1),
            () -> c.compareParts(0, 1, Integer.MIN_VALUE, Integer.MAX_VALUE)));
    }

    /** Number, starts, lengths and powers of the factors, and the factors of the positions. */
    private static String told(LyndonBench b) {
        StringBuilder all = new StringBuilder();
        for (int i = 0; i < b.factorCount(); i++) {
            all.append(b.factorStart(i)).append('+').append(b.factorLength(i)).append('^').append(b.factorPower(i));
            all.append(' ');
        }
        for (int i = 0; i < b.length(); i++) {
            all.append(b.factorOf(i));
        }
        return all.toString();
    }

    private static void factors() {
        promise = 28;
        due("none", 0, () -> Checks.with(2, "").factorCount());
        due("at first", 3, () -> new LyndonBench().factorCount());
        due("120", 120, () -> Checks.with(2, times(120, "a")).factorCount());
        due("one", 1, () -> Checks.with(2, times(119, "a") + "b").factorCount());
        promise = 29;
        due("at first", "0+2^1 2+2^1 4+10^1 00112222222222", () -> told(new LyndonBench()));
        due("powers", "0+1^2 1+1^2 2+2^3 4+2^3 6+2^3 8+1^1 012233445",
            () -> told(Checks.with(2, "bbabababa")));
        due("a longer one before", "0+3^1 3+2^2 5+2^2 7+1^2 8+1^2 000112234", () -> told(Checks.with(2, "abbababaa")));
        LyndonBench b = new LyndonBench();
        due("factorStart of none", INDEX, () -> throwsAll(INDEX, () -> b.factorStart(-1), () -> b.factorStart(3),
            () -> b.factorStart(Integer.MAX_VALUE), () -> Checks.with(2, "").factorStart(0)));
        promise = 30;
        due("the lengths", "2 2 10", () -> b.factorLength(0) + " " + b.factorLength(1) + " " + b.factorLength(2));
        due("of none", INDEX, () -> throwsAll(INDEX, () -> b.factorLength(-1), () -> b.factorLength(3),
            () -> b.factorLength(Integer.MIN_VALUE), () -> Checks.with(2, "").factorLength(0)));
        promise = 31;
        due("120", 120, () -> Checks.with(2, times(120, "a")).factorPower(119));
        due("60", 60, () -> Checks.with(2, times(60, "ab")).factorPower(30));
        due("of none", INDEX, () -> throwsAll(INDEX, () -> b.factorPower(-1), () -> b.factorPower(3),
            () -> b.factorPower(Integer.MAX_VALUE), () -> Checks.with(2, "").factorPower(0)));
        promise = 32;
        due("none", "-1 -1 -1 -1", () -> b.factorOf(-1) + " " + b.factorOf(14) + " " + b.factorOf(Integer.MIN_VALUE)
            + " " + Checks.with(2, "").factorOf(0));
        due("the first and the last", "0 2", () -> b.factorOf(0) + " " + b.factorOf(13));
        promise = 33;
        due("none", -1, () -> Checks.with(2, "").longestFactor());
        due("single letters", 0, () -> Checks.with(2, "ba").longestFactor());
        due("the last", 2, b::longestFactor);
        due("of several the first one", 1, () -> Checks.with(2, "babab").longestFactor());
        due("of equal lengths the first one", 0, () -> Checks.with(3, "acab").longestFactor());
        due("longer and longer ones", 2, () -> Checks.with(2, "babaab").longestFactor());
        due("a long one in the middle", 1, () -> Checks.with(2, "baabaa").longestFactor());
    }

    private static void hypothetical() {
        promise = 34;
        LyndonBench b = Checks.with(2, times(120, "a"));
        due("a full text and a", 121, () -> b.factorsIfAppended('a'));
        due("a full text and b", 1, () -> b.factorsIfAppended('b'));
        due("the text stays", times(120, "a"), () -> Checks.text(b));
        due("the empty one", 1, () -> Checks.with(2, "").factorsIfAppended('b'));
        due("wrong letters", ILLEGAL, () -> throwsAll(ILLEGAL, () -> b.factorsIfAppended(96),
            () -> b.factorsIfAppended('c'), () -> b.factorsIfAppended(-1), () -> b.factorsIfAppended(353)));
        due("no change", 1, b::undoCount);
        promise = 35;
        LyndonBench c = Checks.with(3, "cab");
        due("0 to 3", "2 1 2 2", () -> c.factorsIfRotated(0) + " " + c.factorsIfRotated(1) + " "
            + c.factorsIfRotated(2) + " " + c.factorsIfRotated(3));
        due("the text stays", "cab", () -> Checks.text(c));
        due("the empty one", 0, () -> Checks.with(2, "").factorsIfRotated(0));
        due("wrong counts", ILLEGAL, () -> throwsAll(ILLEGAL, () -> c.factorsIfRotated(-1),
            () -> c.factorsIfRotated(4), () -> c.factorsIfRotated(Integer.MAX_VALUE),
            () -> Checks.with(2, "").factorsIfRotated(1)));
        due("no change", 1, c::undoCount);
    }

    private static int rank(int letters, String text) {
        return Checks.with(letters, text).rankOf(0);
    }

    private static void ranks() {
        promise = 36;
        due("single letters", "0 1 8", () -> rank(2, "a") + " " + rank(2, "b") + " " + rank(9, "i"));
        due("of two", "0 1 2", () -> rank(3, "ab") + " " + rank(3, "ac") + " " + rank(3, "bc"));
        due("of three", "0 1 2 7", () -> rank(3, "aab") + " " + rank(3, "aac") + " " + rank(3, "abb") + " "
            + rank(3, "bcc"));
        due("12 of two letters", 0, () -> rank(2, times(11, "a") + "b"));
        due("the last of them", 334, () -> rank(2, "a" + times(11, "b")));
        due("13 of two letters", -1, () -> rank(2, times(12, "a") + "b"));
        due("6 of four letters", 0, () -> rank(4, "aaaaab"));
        due("7 of four letters", -1, () -> rank(4, "aaaaaab"));
        due("7 and 8 of three", "0 -1", () -> rank(3, "aaaaaab") + " " + rank(3, "aaaaaaab"));
        due("5 and 6 of five", "0 -1", () -> rank(5, "aaaab") + " " + rank(5, "aaaaab"));
        due("4 and 5 of eight", "0 -1", () -> rank(8, "aaab") + " " + rank(8, "aaaab"));
        due("3 and 4 of nine", "239 -1", () -> rank(9, "hii") + " " + rank(9, "aaab"));
        due("120 letters", -1, () -> rank(2, times(119, "a") + "b"));
        due("far behind", "1 1 0", () -> {
            LyndonBench b = Checks.with(2, times(20, "b") + "abbabaab");
            return b.rankOf(19) + " " + b.rankOf(20) + " " + b.rankOf(22);
        });
        due("of none", INDEX, () -> throwsAll(INDEX, () -> new LyndonBench().rankOf(3),
            () -> new LyndonBench().rankOf(-1), () -> Checks.with(2, "").rankOf(0)));
    }

    /** isLyndon, whyNotLyndon, isNecklace, isPrenecklace and keepingLetter. */
    private static String kind(int letters, String text) {
        LyndonBench b = Checks.with(letters, text);
        return b.isLyndon() + " " + b.whyNotLyndon() + " " + b.isNecklace() + " " + b.isPrenecklace() + " "
            + b.keepingLetter();
    }

    private static void lyndonAndNecklaces() {
        promise = 37;
        due("a Lyndon word", "true 0 true true 97", () -> kind(3, "aabac"));
        due("a letter", "true 0 true true 98", () -> kind(2, "b"));
        promise = 38;
        due("empty", "false 1 false false -1", () -> kind(2, ""));
        due("a power of a Lyndon word", "false 2 true true 97", () -> kind(2, "abab"));
        due("a power with a smaller rotation", "false 2 false false -1", () -> kind(2, "baba"));
        due("a smaller rotation", "false 3 false false -1", () -> kind(2, "ba"));
        promise = 39;
        due("a power of a letter", "false 2 true true 97", () -> kind(2, "aaa"));
        due("the greatest letter", "false 2 true true 99", () -> kind(3, "ccc"));
        promise = 40;
        due("the beginning of a power", "false 3 false true 98", () -> kind(2, "aba"));
        due("with more letters", "false 3 false true 98", () -> kind(9, "aba"));
        due("behind two powers", "false 3 false true 97", () -> kind(2, "aabaaba"));
        due("a fall", "false 3 false false -1", () -> kind(2, "abaa"));
        due("the greatest first", "false 3 false false -1", () -> kind(3, "ca"));
        promise = 41;
        due("behind abac", "true 0 true true 97", () -> kind(3, "abac"));
        due("behind abacab", "false 3 false true 97", () -> kind(3, "abacab"));
        due("behind abacaba", "false 3 false true 99", () -> kind(3, "abacaba"));
        due("behind 120 letters", "true 0 true true 97", () -> kind(2, times(119, "a") + "b"));
    }

    /** leastRotation, rotationCount, smallestPeriod, longestBorder, leastSuffix and greatestSuffix. */
    private static String shape(int letters, String text) {
        LyndonBench b = Checks.with(letters, text);
        return b.leastRotation() + " " + b.rotationCount() + " " + b.smallestPeriod() + " " + b.longestBorder() + " "
            + b.leastSuffix() + " " + b.greatestSuffix();
    }

    private static void rotationsAndPeriods() {
        promise = 42;
        due("empty", "0 0 0 0 -1 -1", () -> shape(2, ""));
        due("a letter", "0 1 1 0 0 0", () -> shape(2, "b"));
        due("of several the smallest number", "1 2 2 2 3 0", () -> shape(2, "baba"));
        due("the last", "4 5 5 0 4 0", () -> shape(3, "ccbba"));
        due("smaller and smaller", "3 4 4 0 3 0", () -> shape(4, "dcba"));
        due("behind nearly the same", "6 12 12 0 6 11", () -> shape(3, "aabaabaaaaac"));
        promise = 43;
        due("three times", "0 2 2 4 4 1", () -> shape(2, "ababab"));
        due("a period that does not divide", "4 5 2 3 4 1", () -> shape(2, "ababa"));
        promise = 44;
        due("the length", "0 4 4 0 0 3", () -> shape(2, "aaab"));
        due("120", "0 1 1 119 119 0", () -> shape(2, times(120, "a")));
        due("a period of 60", "1 60 60 60 119 0", () -> shape(2, times(2, "b" + times(59, "a"))));
        promise = 45;
        due("a border that overlaps", "0 1 1 2 2 0", () -> shape(2, "aaa"));
        due("a border of one", "2 3 2 1 2 1", () -> shape(2, "aba"));
        promise = 46;
        due("a suffix that begins another", "3 5 3 2 4 2", () -> shape(3, "aacaa"));
        promise = 47;
        due("of equal beginnings the longer one", "0 1 1 4 4 0", () -> shape(2, "bbbbb"));
    }

    private static void counts() {
        promise = 48;
        LyndonBench two = Checks.with(2, "");
        LyndonBench nine = Checks.with(9, "");
        long[] ofTwo = {2, 1, 2, 3, 6, 9, 18, 30, 56, 99, 186, 335, 630, 1161, 2182, 4080, 7710, 14532};
        long[] necklacesOfTwo = {2, 3, 4, 6, 8, 14, 20, 36, 60, 108, 188, 352, 632, 1182, 2192, 4116, 7712, 14602};
        for (int i = 1; i <= 18; i++) {
            int length = i;
            promise = 48;
            due("two letters, " + i, ofTwo[i - 1], () -> two.lyndonWords(length));
            promise = 49;
            due("two letters, " + i, necklacesOfTwo[i - 1], () -> two.necklaces(length));
        }
        for (int i = 1; i <= 18; i++) {
            int length = i;
            long words = Model.primitiveWords(9, length) / length;
            promise = 48;
            due("nine letters, " + i, words, () -> nine.lyndonWords(length));
        }
        due("nine letters", "9 36 240 1620", () -> nine.lyndonWords(1) + " " + nine.lyndonWords(2) + " "
            + nine.lyndonWords(3) + " " + nine.lyndonWords(4));
        due("nine letters, 18", 8338590828280440L, () -> nine.lyndonWords(18));
        due("wrong lengths", ILLEGAL, () -> throwsAll(ILLEGAL, () -> two.lyndonWords(0), () -> two.lyndonWords(19),
            () -> two.lyndonWords(-1), () -> two.lyndonWords(Integer.MAX_VALUE)));
        promise = 49;
        due("nine letters, 18", 8338590871415805L, () -> nine.necklaces(18));
        due("wrong lengths", ILLEGAL, () -> throwsAll(ILLEGAL, () -> two.necklaces(0), () -> two.necklaces(19),
            () -> two.necklaces(Integer.MIN_VALUE)));
    }

    private static String row(int letters, int order) {
        LyndonBench b = Checks.with(letters, "");
        StringBuilder row = new StringBuilder();
        for (int i = 0; i < 5000; i++) {
            int index = i;
            Object letter = Checks.answerOf(() -> b.bruijnLetter(order, index));
            if (!(letter instanceof Integer)) {
                return row + (letter.equals(INDEX) ? "" : " " + letter);
            }
            row.append((char) (int) (Integer) letter);
        }
        return row + " has no end";
    }

    private static void bruijn() {
        promise = 50;
        due("2, 1", "ab", () -> row(2, 1));
        due("2, 3", "aaababbb", () -> row(2, 3));
        due("2, 4", "aaaabaabbababbbb", () -> row(2, 4));
        due("3, 2", "aabacbbcc", () -> row(3, 2));
        due("9, 1", "abcdefghi", () -> row(9, 1));
        int[] greatestOrders = {12, 7, 6, 5, 4, 4, 4, 3};
        for (int letters = 2; letters <= 9; letters++) {
            int n = letters;
            int greatest = greatestOrders[letters - 2];
            LyndonBench b = Checks.with(n, "");
            due("the row of " + n + " and " + greatest, Model.bruijnRow(n, greatest), () -> row(n, greatest));
            due("the next order", ILLEGAL, () -> b.bruijnLetter(greatest + 1, 0));
            due("order 12 and 13", n == 2 ? "97 " + ILLEGAL : ILLEGAL + " " + ILLEGAL,
                () -> Checks.answerOf(() -> b.bruijnLetter(12, 0)) + " "
                    + Checks.answerOf(() -> b.bruijnLetter(13, 0)));
        }
        LyndonBench b = Checks.with(2, "");
        due("wrong orders", ILLEGAL, () -> throwsAll(ILLEGAL, () -> b.bruijnLetter(0, 0), () -> b.bruijnLetter(-1, 0),
            () -> b.bruijnLetter(Integer.MAX_VALUE, 0), () -> b.bruijnLetter(Integer.MIN_VALUE, -1)));
        due("wrong indexes", INDEX, () -> throwsAll(INDEX, () -> b.bruijnLetter(3, -1), () -> b.bruijnLetter(3, 8),
            () -> b.bruijnLetter(12, 4096), () -> b.bruijnLetter(12, Integer.MAX_VALUE),
            () -> b.bruijnLetter(12, Integer.MIN_VALUE)));
        due("the order is looked at first", ILLEGAL, () -> b.bruijnLetter(13, -1));
        due("the last letter", 98, () -> b.bruijnLetter(12, 4095));
    }

    private static void shelf() {
        LyndonBench b = new LyndonBench();
        LyndonBench empty = Checks.with(2, "ab");
        promise = 51;
        due("at first", 2, b::keptCount);
        due("none", 0, empty::keptCount);
        promise = 52;
        due("lengths", "4 2", () -> b.keptLength(0) + " " + b.keptLength(1));
        due("of none", INDEX, () -> throwsAll(INDEX, () -> b.keptLength(-1), () -> b.keptLength(2),
            () -> b.keptLength(Integer.MAX_VALUE), () -> empty.keptLength(0)));
        promise = 53;
        due("letters", "97 99 98", () -> b.keptLetter(0, 0) + " " + b.keptLetter(0, 3) + " " + b.keptLetter(1, 1));
        due("no letter", "-1 -1 -1", () -> b.keptLetter(0, -1) + " " + b.keptLetter(0, 4) + " "
            + b.keptLetter(1, Integer.MAX_VALUE));
        due("of none", INDEX, () -> throwsAll(INDEX, () -> b.keptLetter(-1, 0), () -> b.keptLetter(2, 0),
            () -> b.keptLetter(Integer.MIN_VALUE, -1), () -> empty.keptLetter(0, 0)));
        promise = 54;
        due("at first", true, b::isShelfFalling);
        due("none", true, empty::isShelfFalling);
        due("equal ones", true, () -> Checks.after("letters 2;text ab;keep;keep;").isShelfFalling());
        due("a longer one behind", false, () -> Checks.after("letters 2;text a;keep;append a;keep;").isShelfFalling());
        due("late", false, () -> Checks.after("letters 2;text b;keep;text a;keep;text ab;keep;").isShelfFalling());
        promise = 55;
        due("at first", 0, b::greatestKept);
        due("none", -1, empty::greatestKept);
        due("of several the first one", 1,
            () -> Checks.after("letters 2;text a;keep;text b;keep;keep;text ab;keep;").greatestKept());
        due("the longer one", 1, () -> Checks.after("letters 2;text a;keep;append a;keep;").greatestKept());
    }

    private static void means() {
        promise = 56;
        due("at first", 14.0 / 3.0, () -> new LyndonBench().meanFactor());
        due("none", 0.0, () -> Checks.with(2, "").meanFactor());
        due("one", 2.0, () -> Checks.with(2, "ab").meanFactor());
        due("many", 1.0, () -> Checks.with(2, times(120, "a")).meanFactor());
        promise = 57;
        due("2 letters", 9.0f / 14.0f, () -> Checks.with(2, "").lyndonShare());
        due("3 letters", 116.0f / 130.0f, () -> new LyndonBench().lyndonShare());
        due("9 letters", 88440.0f / 88725.0f, () -> Checks.with(9, "").lyndonShare());
        promise = 58;
        for (String text : new String[] {"", "a", "ba", "abab", "bbabaab", times(120, "a"), times(40, "cba")}) {
            due("of " + text, 0, () -> Checks.with(3, text).violations());
        }
    }

    private static String written(int letters, String text) {
        LyndonBench b = Checks.with(letters, text);
        return b.writeFactors() + " " + Checks.report(b);
    }

    private static void report() {
        promise = 59;
        due("none", "0 ", () -> written(2, ""));
        due("one", "2 ab", () -> written(2, "ab"));
        due("powers", "12 b^2|ab^3|a^2", () -> written(2, "bbabababaa"));
        due("single letters", "3 b|a", () -> written(2, "ba"));
        due("a power of 9", "3 a^9", () -> written(2, times(9, "a")));
        due("a power of 99", "4 a^99", () -> written(2, times(99, "a")));
        due("a power of 10", "4 a^10", () -> written(2, times(10, "a")));
        due("a power of 100", "5 a^100", () -> written(2, times(100, "a")));
        due("a power of 120", "5 a^120", () -> written(2, times(120, "a")));
        due("no bar behind the last", "16 ac|ab|aabaccabab", () -> {
            LyndonBench b = new LyndonBench();
            return b.writeFactors() + " " + Checks.report(b);
        });
        due("many", "33 i^2|h^2|g^2|f^2|e^2|d^2|c^2|b^2|a", () -> written(9, "iihhggffeeddccbba"));
        promise = 60;
        LyndonBench b = Checks.with(2, "abab");
        due("nothing written", -1, () -> b.reportByte(0));
        b.writeFactors();
        due("bytes", "97 98 94 50", () -> b.reportByte(0) + " " + b.reportByte(1) + " " + b.reportByte(2) + " "
            + b.reportByte(3));
        due("none", "-1 -1 -1", () -> b.reportByte(-1) + " " + b.reportByte(4) + " "
            + b.reportByte(Integer.MAX_VALUE));
        b.appendLetter('a');
        due("the report stays", "ab^2", () -> Checks.report(b));
        b.dropLast(4);
        b.writeFactors();
        due("in place of the previous one", "a", () -> Checks.report(b));
        b.dropLast(1);
        b.writeFactors();
        due("an empty one", "", () -> Checks.report(b));
    }

    /** All calls of a run share one room, so even the dearest ones must not make objects. */
    private static void dearest() {
        promise = 4;
        LyndonBench b = new LyndonBench();
        com.sun.management.ThreadMXBean threads =
            (com.sun.management.ThreadMXBean) java.lang.management.ManagementFactory.getThreadMXBean();
        long id = Thread.currentThread().getId();
        Checks.load(b, "letters 2;text " + times(120, "a") + ";repeat 20(repeat 9(least;););");
        b.runScript();
        b.violations();
        b.bruijnLetter(9, 500);
        long before = threads.getThreadAllocatedBytes(id);
        for (int i = 0; i < 200; i++) {
            b.violations();
            b.reverse();
            b.undo();
            b.writeFactors();
            b.factorsIfRotated(60);
            b.whyNotLyndon();
            b.bruijnLetter(9, 500);
            b.runScript();
            b.saveSnapshot();
        }
        long made = threads.getThreadAllocatedBytes(id) - before;
        due("calls make no objects (" + made + " bytes)", true, () -> made < 20000);
    }
}
