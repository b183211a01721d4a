import static java.lang.Integer.MAX_VALUE;
import static java.lang.Integer.MIN_VALUE;

/** Boundary cases of the promises 24 to 36: the text and its factors. */
final class TextEdges {
    private TextEdges() {
    }

    private static String times(int count, String part) {
        return Checks.times(count, part);
    }

    private static LyndonBench with(String text) {
        return Checks.with(3, text);
    }

    // ---- letters, length, letterAt

    @Says("There are 2 to 9 letters")
    static void promise24_from2To9() {
        for (int letters = 2; letters <= 9; letters++) {
            int n = letters;
            Checks.due(n, () -> Checks.with(n, "").letters());
            LyndonBench b = with("ab");
            b.setLetters(n);
            Checks.due(n, b::letters);
        }
    }

    @Says("The text is a word of at most 120 letters")
    static void promise25_from0To120() {
        for (int length = 0; length <= 120; length++) {
            int n = length;
            Checks.due(n, () -> with(times(n, "b")).length());
        }
        LyndonBench b = with(times(120, "b"));
        Checks.answerOf(() -> b.appendLetter('a'));
        Checks.due(120, b::length);
    }

    @Says("Returns the letter as a byte, or NONE if there is no such position.")
    static void promise26_theFirstAndTheLastPosition() {
        LyndonBench b = Checks.with(9, "iabh");
        Checks.due("105 97 98 104", () -> b.letterAt(0) + " " + b.letterAt(1) + " " + b.letterAt(2) + " "
            + b.letterAt(3));
        Checks.due(98, () -> with(times(119, "a") + "b").letterAt(119));
    }

    @Says("Returns the letter as a byte, or NONE if there is no such position.")
    static void promise26_noSuchPosition() {
        LyndonBench b = Checks.with(9, "iabh");
        for (int position : new int[] {-1, 4, 5, 120, MIN_VALUE, MAX_VALUE}) {
            Checks.due(-1, () -> b.letterAt(position));
        }
        Checks.due(-1, () -> with("").letterAt(0));
        Checks.due(-1, () -> with(times(120, "a")).letterAt(120));
        b.dropLast(1);
        Checks.due(-1, () -> b.letterAt(3));
        b.cutPart(1, 2);
        Checks.due("97 -1", () -> b.letterAt(0) + " " + b.letterAt(1));
    }

    // ---- compareParts

    @Says("a word that is the beginning of another one comes before it")
    static void promise27_aBeginningIsSmaller() {
        LyndonBench b = with("abcabcc");
        Checks.due("-1 1 0", () -> b.compareParts(0, 2, 3, 6) + " " + b.compareParts(3, 6, 0, 2) + " "
            + b.compareParts(0, 3, 3, 6));
        Checks.due("-1 1 0", () -> b.compareParts(0, 0, 0, 1) + " " + b.compareParts(0, 1, 7, 7) + " "
            + b.compareParts(0, 0, 7, 7));
    }

    @Says("Returns -1 if the first part is smaller, 0 if both are equal, 1 if it is greater.")
    static void promise27_differenceAtTheLastLetterAndLengths() {
        LyndonBench b = with(times(59, "a") + "b" + times(59, "a") + "c");
        Checks.due("-1 1", () -> b.compareParts(0, 60, 60, 120) + " " + b.compareParts(60, 120, 0, 60));
        Checks.due("0", () -> b.compareParts(0, 59, 60, 119) + "");
        Checks.due("0", () -> b.compareParts(0, 120, 0, 120) + "");
        Checks.due("1 -1", () -> b.compareParts(119, 120, 0, 120) + " " + b.compareParts(0, 120, 119, 120));
    }

    @Says("Throws `IllegalArgumentException` if a part does not lie in the text or its end is before its beginning")
    static void promise27_aPartDoesNotLieInTheText() {
        LyndonBench b = with("abc");
        Checks.all(Checks.ILLEGAL, () -> b.compareParts(-1, 1, 0, 1), () -> b.compareParts(0, 4, 0, 1),
            () -> b.compareParts(4, 4, 0, 1), () -> b.compareParts(0, 1, -1, 1), () -> b.compareParts(0, 1, 0, 4),
            () -> b.compareParts(0, 1, 4, 4), () -> b.compareParts(-1, -1, 0, 1), () -> b.compareParts(0, 1, -1, -1),
            () -> b.compareParts(MIN_VALUE, MAX_VALUE, 0, 1), () -> b.compareParts(0, 1, MIN_VALUE, MAX_VALUE),
            () -> with("").compareParts(0, 1, 0, 0), () -> with("").compareParts(0, 0, 0, 1));
        Checks.due(0, () -> with("").compareParts(0, 0, 0, 0));
        Checks.due(0, () -> b.compareParts(3, 3, 3, 3));
    }

    @Says("Throws `IllegalArgumentException` if a part does not lie in the text or its end is before its beginning")
    static void promise27_anEndIsBeforeItsBeginning() {
        LyndonBench b = with("abc");
        Checks.all(Checks.ILLEGAL, () -> b.compareParts(1, 0, 0, 1), () -> b.compareParts(3, 2, 0, 1),
            () -> b.compareParts(0, 1, 1, 0), () -> b.compareParts(0, 1, 3, 2), () -> b.compareParts(3, 0, 3, 0),
            () -> b.compareParts(MAX_VALUE, MIN_VALUE, 0, 1), () -> b.compareParts(0, 1, MAX_VALUE, MIN_VALUE));
    }

    // ---- factorCount, factorStart, factorLength, factorPower

    @Says("These are its factors, numbered from 0; an empty text has none.")
    static void promise28_from0To120() {
        Checks.due(0, () -> with("").factorCount());
        Checks.due(1, () -> with("a").factorCount());
        Checks.due(120, () -> with(times(120, "c")).factorCount());
        Checks.due(60, () -> with(times(60, "ab")).factorCount());
        Checks.due(1, () -> with(times(119, "a") + "b").factorCount());
        Checks.due(120, () -> with("b" + times(119, "a")).factorCount());
    }

    @Says("in just one way, into Lyndon words none of which is greater than the one before it")
    static void promise28_equalOnesAreNotJoined() {
        Checks.due(2, () -> with("abab").factorCount());
        Checks.due(3, () -> with("ababa").factorCount());
        Checks.due(1, () -> with("ababb").factorCount());
        Checks.due(2, () -> with("cc").factorCount());
    }

    /** The numbers that are none of a factor, for a text of 3 factors. */
    private static final int[] NONE_OF_THREE = {-1, 3, 4, 5, 120, MIN_VALUE, MAX_VALUE};

    @Says("Throws `IndexOutOfBoundsException` if `factor` is not the number of a factor")
    static void promise29_noNumberOfAFactor() {
        for (int factor : NONE_OF_THREE) {
            Checks.due(Checks.INDEX, () -> with("caba").factorStart(factor));
        }
        Checks.due(Checks.INDEX, () -> with("").factorStart(0));
        Checks.due(Checks.INDEX, () -> with(times(120, "a")).factorStart(120));
    }

    @Says("Returns the position of its first letter.")
    static void promise29_theFirstAndTheLastFactor() {
        LyndonBench b = with("caba");
        Checks.due("0 1 3", () -> b.factorStart(0) + " " + b.factorStart(1) + " " + b.factorStart(2));
        Checks.due(119, () -> with(times(120, "a")).factorStart(119));
        Checks.due(0, () -> with(times(119, "a") + "b").factorStart(0));
    }

    @Says("Throws `IndexOutOfBoundsException` if `factor` is not the number of a factor")
    static void promise30_noNumberOfAFactor() {
        for (int factor : NONE_OF_THREE) {
            Checks.due(Checks.INDEX, () -> with("caba").factorLength(factor));
        }
        Checks.due(Checks.INDEX, () -> with("").factorLength(0));
        Checks.due(Checks.INDEX, () -> with(times(120, "a")).factorLength(120));
    }

    @Says("Returns the number of its letters.")
    static void promise30_theFirstAndTheLastFactor() {
        LyndonBench b = with("caba");
        Checks.due("1 2 1", () -> b.factorLength(0) + " " + b.factorLength(1) + " " + b.factorLength(2));
        Checks.due(1, () -> with(times(120, "a")).factorLength(119));
        Checks.due(120, () -> with(times(119, "a") + "b").factorLength(0));
    }

    @Says("Throws `IndexOutOfBoundsException` if `factor` is not the number of a factor")
    static void promise31_noNumberOfAFactor() {
        for (int factor : NONE_OF_THREE) {
            Checks.due(Checks.INDEX, () -> with("caba").factorPower(factor));
        }
        Checks.due(Checks.INDEX, () -> with("").factorPower(0));
        Checks.due(Checks.INDEX, () -> with(times(120, "a")).factorPower(120));
    }

    @Says("The power of a factor is the number of factors that equal it, with itself; they stand one behind the other.")
    static void promise31_from1To120() {
        LyndonBench b = with("ccababaaaa");
        StringBuilder powers = new StringBuilder();
        for (int i = 0; i < b.factorCount(); i++) {
            powers.append(b.factorPower(i));
        }
        Checks.due("22224444", () -> powers);
        Checks.due(1, () -> with("c").factorPower(0));
        Checks.due("120 120 120", () -> {
            LyndonBench c = with(times(120, "c"));
            return c.factorPower(0) + " " + c.factorPower(60) + " " + c.factorPower(119);
        });
        Checks.due("1 1", () -> {
            LyndonBench c = with("aba");
            return c.factorPower(0) + " " + c.factorPower(1);
        });
    }

    // ---- factorOf and longestFactor

    @Says("Returns the number of the factor, or NONE if there is no such position.")
    static void promise32_theEndsOfFactors() {
        LyndonBench b = with("cababaac");
        StringBuilder all = new StringBuilder();
        for (int i = -1; i <= 8; i++) {
            all.append(b.factorOf(i)).append(' ');
        }
        Checks.due("-1 0 1 1 2 2 3 3 3 -1 ", () -> all);
    }

    @Says("Returns the number of the factor, or NONE if there is no such position.")
    static void promise32_noSuchPosition() {
        LyndonBench b = with("cab");
        for (int position : new int[] {-1, 3, 4, 120, MIN_VALUE, MAX_VALUE}) {
            Checks.due(-1, () -> b.factorOf(position));
        }
        Checks.due(-1, () -> with("").factorOf(0));
        Checks.due("119 -1", () -> with(times(120, "a")).factorOf(119) + " " + with(times(120, "a")).factorOf(120));
    }

    @Says("Returns the number of the longest factor, of several the first one; NONE if the text is empty.")
    static void promise33_ofSeveralTheFirstOne() {
        Checks.due(0, () -> with(times(120, "a")).longestFactor());
        Checks.due(1, () -> with("cababa").longestFactor());
        Checks.due(0, () -> with("acab").longestFactor());
        Checks.due(2, () -> with("ccabacab").longestFactor());
        Checks.due(2, () -> with("cabaac").longestFactor());
        Checks.due(0, () -> with("bca").longestFactor());
    }

    @Says("Returns the number of the longest factor, of several the first one; NONE if the text is empty.")
    static void promise33_noneIfTheTextIsEmpty() {
        Checks.due(-1, () -> with("").longestFactor());
        LyndonBench b = with("ab");
        b.dropLast(2);
        Checks.due(-1, b::longestFactor);
        Checks.due(0, () -> with("a").longestFactor());
    }

    // ---- factorsIfAppended and factorsIfRotated

    @Says("Returns the number of factors, whatever the length of the text is.")
    static void promise34_evenWith120Letters() {
        LyndonBench b = with(times(120, "a"));
        Checks.due("121 1 1", () -> b.factorsIfAppended('a') + " " + b.factorsIfAppended('b') + " "
            + b.factorsIfAppended('c'));
        Checks.due("1 1 1", () -> with("").factorsIfAppended('a') + " " + with("").factorsIfAppended('b') + " "
            + with("").factorsIfAppended('c'));
        LyndonBench c = with(times(119, "b"));
        Checks.due("120 120 1", () -> c.factorsIfAppended('a') + " " + c.factorsIfAppended('b') + " "
            + c.factorsIfAppended('c'));
        Checks.due(times(120, "a"), () -> Checks.text(b));
    }

    @Says("Throws `IllegalArgumentException` if `letter` is not one of the letters")
    static void promise34_notOneOfTheLetters() {
        for (int letters = 2; letters <= 9; letters++) {
            LyndonBench b = Checks.with(letters, "ab");
            int first = 97;
            int last = 96 + letters;
            Checks.due("int", () -> b.factorsIfAppended(first) + b.factorsIfAppended(last) > 0 ? "int" : "none");
            Checks.all(Checks.ILLEGAL, () -> b.factorsIfAppended(first - 1), () -> b.factorsIfAppended(last + 1));
        }
        LyndonBench b = with("ab");
        for (int letter : new int[] {0, -1, 65, 97 + 256, 97 - 256, MIN_VALUE, MAX_VALUE}) {
            Checks.due(Checks.ILLEGAL, () -> b.factorsIfAppended(letter));
        }
        Checks.due(Checks.ILLEGAL, () -> with(times(120, "a")).factorsIfAppended('d'));
    }

    @Says("Returns how many factors the text would have with one more letter.")
    static void promise34_changesNothing() {
        LyndonBench b = with("cab");
        b.factorsIfAppended('a');
        Checks.due("3 cab [] 1", () -> Checks.state(b));
    }

    @Says("count: 0 to the length of the text")
    static void promise35_0AndTheLengthAreInRange() {
        LyndonBench b = with("cabb");
        StringBuilder counts = new StringBuilder();
        for (int count = 0; count <= 4; count++) {
            counts.append(b.factorsIfRotated(count));
        }
        Checks.due("21222", () -> counts);
        Checks.due(0, () -> with("").factorsIfRotated(0));
        Checks.due("1 120", () -> with(times(119, "a") + "b").factorsIfRotated(120) + " "
            + with(times(119, "a") + "b").factorsIfRotated(119));
        Checks.due("3 cabb [] 1", () -> Checks.state(b));
    }

    @Says("Throws `IllegalArgumentException` if `count` is out of range")
    static void promise35_outOfRange() {
        LyndonBench b = with("cabb");
        for (int count : new int[] {-1, 5, 120, 121, MIN_VALUE, MAX_VALUE}) {
            Checks.due(Checks.ILLEGAL, () -> b.factorsIfRotated(count));
        }
        Checks.all(Checks.ILLEGAL, () -> with("").factorsIfRotated(1), () -> with("").factorsIfRotated(-1));
    }

    // ---- rankOf

    @Says("or NONE if the number of letters to the power of its length is greater than 4096")
    static void promise36_thePowerIsAtMost4096OrGreater() {
        int[] longest = {12, 7, 6, 5, 4, 4, 4, 3};
        for (int letters = 2; letters <= 9; letters++) {
            int n = letters;
            int most = longest[letters - 2];
            Checks.due(n + " letters", 0, () -> Checks.with(n, times(most - 1, "a") + "b").rankOf(0));
            Checks.due(n + " letters", -1, () -> Checks.with(n, times(most, "a") + "b").rankOf(0));
            Checks.due(n + " letters", -1, () -> Checks.with(n, times(119, "a") + "b").rankOf(0));
        }
    }

    @Says("Returns how many Lyndon words of the same length are smaller than a factor.")
    static void promise36_theSmallestAndTheGreatestWord() {
        int[] longest = {12, 7, 6, 5, 4, 4, 4, 3};
        for (int letters = 2; letters <= 9; letters++) {
            int n = letters;
            int most = longest[letters - 2];
            String greatest = String.valueOf((char) ('a' + letters - 1));
            String second = String.valueOf((char) ('a' + letters - 2));
            Checks.due(0, () -> Checks.with(n, "a").rankOf(0));
            Checks.due(n - 1, () -> Checks.with(n, greatest).rankOf(0));
            for (int length = 2; length <= most; length++) {
                String word = second + times(length - 1, greatest);
                int rank = Model.lyndonWordsOf(n, length).size() - 1;
                Checks.due(word, rank, () -> Checks.with(n, word).rankOf(0));
            }
        }
    }

    @Says("Returns how many Lyndon words of the same length are smaller than a factor.")
    static void promise36_theFactorsAtTheEndOfTheText() {
        LyndonBench b = Checks.with(2, times(108, "b") + times(11, "a") + "b");
        Checks.due("1 1 0", () -> b.rankOf(0) + " " + b.rankOf(107) + " " + b.rankOf(108));
        LyndonBench c = Checks.with(3, times(58, "bc") + "bac" + "a");
        Checks.due("2 2 1 1 0", () -> c.rankOf(0) + " " + c.rankOf(57) + " " + c.rankOf(58) + " " + c.rankOf(59) + " "
            + c.rankOf(60));
        LyndonBench d = with(times(20, "c") + times(99, "a") + "b");
        Checks.due("2 2 -1", () -> d.rankOf(0) + " " + d.rankOf(19) + " " + d.rankOf(20));
    }

    @Says("Throws `IndexOutOfBoundsException` if `factor` is not the number of a factor")
    static void promise36_noNumberOfAFactor() {
        for (int factor : NONE_OF_THREE) {
            Checks.due(Checks.INDEX, () -> with("caba").rankOf(factor));
        }
        Checks.due(Checks.INDEX, () -> with("").rankOf(0));
        Checks.due(Checks.INDEX, () -> with(times(119, "a") + "b").rankOf(1));
    }
}
