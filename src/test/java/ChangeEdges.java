import static java.lang.Integer.MAX_VALUE;
import static java.lang.Integer.MIN_VALUE;

import java.util.TreeSet;
import java.util.function.Function;

/** Boundary cases of the promises 5 to 13: changes of the letters and the text. */
final class ChangeEdges {
    private ChangeEdges() {
    }

    private static String times(int count, String part) {
        return Checks.times(count, part);
    }

    /** What a call answers on a bench with a text, and the text afterwards. */
    private static void changed(int letters, String text, String want, Function<LyndonBench, Object> call) {
        LyndonBench b = Checks.with(letters, text);
        Checks.due(text, want, () -> call.apply(b) + " " + Checks.text(b));
    }

    private static void refused(String name, int letters, String text, Function<LyndonBench, Object> call) {
        Checks.refused(name, () -> Checks.with(letters, text), call);
    }

    // ---- setLetters

    @Says("letters: 2 to 9")
    static void promise05_2And9AreInRange() {
        for (int letters = 2; letters <= 9; letters++) {
            int n = letters;
            LyndonBench b = Checks.with(5, "ab");
            Checks.due(5, () -> b.setLetters(n));
            Checks.due(n, b::letters);
            Checks.due(n, () -> b.setLetters(n));
            Checks.due("greatest letter", true, () -> b.appendLetter('a' + n - 1) > 0);
            Checks.due(Checks.ILLEGAL, () -> b.appendLetter('a' + n));
        }
    }

    @Says("Throws `IllegalArgumentException` if `letters` is out of range")
    static void promise05_1And10AreOutOfRange() {
        for (int letters : new int[] {1, 10, 0, -1, MIN_VALUE, MAX_VALUE, 2 + 256}) {
            refused(Checks.ILLEGAL, 2, "", b -> b.setLetters(letters));
        }
    }

    @Says("Returns the previous number.")
    static void promise05_theSameNumberAgain() {
        LyndonBench b = new LyndonBench();
        Checks.due(3, () -> b.setLetters(3));
        Checks.due("3 acabaabaccabab [abac ab] 1", () -> Checks.state(b));
    }

    @Says("Throws `IllegalStateException` if the text or a kept word has a letter that would not be one any more")
    static void promise05_theTextHasSuchALetter() {
        for (int letters = 3; letters <= 9; letters++) {
            int fewer = letters - 1;
            String greatest = String.valueOf((char) ('a' + letters - 1));
            String second = String.valueOf((char) ('a' + letters - 2));
            refused(Checks.STATE, letters, greatest, b -> b.setLetters(fewer));
            refused(Checks.STATE, letters, times(119, "a") + greatest, b -> b.setLetters(fewer));
            refused(Checks.STATE, letters, greatest + times(119, "a"), b -> b.setLetters(fewer));
            changed(letters, second, letters + " " + second, b -> b.setLetters(fewer));
        }
    }

    @Says("Throws `IllegalStateException` if the text or a kept word has a letter that would not be one any more")
    static void promise05_aKeptWordHasSuchALetter() {
        Checks.refused(Checks.STATE, () -> Checks.after("letters 3;text c;keep;text a;"), b -> b.setLetters(2));
        String last = "letters 3;text a;" + times(7, "keep;") + "text bac;keep;text a;";
        Checks.refused(Checks.STATE, () -> Checks.after(last), b -> b.setLetters(2));
        LyndonBench b = Checks.after("letters 3;text c;keep;text b;keep;remove 0;");
        Checks.due(3, () -> b.setLetters(2));
        Checks.due("2 b [b] 2", () -> Checks.state(b));
    }

    @Says("Throws `IllegalStateException` if the text or a kept word has a letter that would not be one any more")
    static void promise05_aLetterThatWasCutOffDoesNotCount() {
        LyndonBench b = Checks.with(3, "abc");
        b.dropLast(1);
        Checks.due(3, () -> b.setLetters(2));
    }

    @Says("If several exceptions apply to a call, the one that is listed first is thrown.")
    static void promise05_theRangeIsListedFirst() {
        refused(Checks.ILLEGAL, 3, "abc", b -> b.setLetters(1));
        refused(Checks.ILLEGAL, 9, "i", b -> b.setLetters(-1));
    }

    // ---- readText

    private static LyndonBench reading(int letters, String bytes) {
        LyndonBench b = Checks.with(letters, "ab");
        Checks.load(b, bytes);
        return b;
    }

    private static void reads(int letters, String bytes, String want) {
        LyndonBench b = reading(letters, bytes);
        Checks.due(bytes, want.length(), b::readText);
        Checks.due(bytes, want, () -> Checks.text(b));
    }

    @Says("up to the first byte that is not one of the letters")
    static void promise06_stopsAtTheFirstOtherByte() {
        reads(3, "abcdabc", "abc");
        reads(4, "abcdabc", "abcdabc");
        reads(2, "abcdabc", "ab");
        reads(3, "abc`abc", "abc");
        reads(3, "abcAabc", "abc");
        reads(3, "abc abc", "abc");
        reads(3, "a\u0000b", "a");
        reads(3, "a\u00ffb", "a");
        reads(3, "a\u00e1b", "a");
        reads(9, "abcdefghijabc", "abcdefghi");
    }

    @Says("Makes the first bytes of the input buffer the text")
    static void promise06_noLetterAtAll() {
        reads(3, "", "");
        reads(3, "dabc", "");
        reads(3, "\u0000abc", "");
        reads(2, times(600, "c"), "");
    }

    @Says("Makes the first bytes of the input buffer the text")
    static void promise06_allBytesAreLetters() {
        reads(3, "c", "c");
        reads(3, times(20, "abc"), times(20, "abc"));
    }

    @Says("the input buffer is empty afterwards")
    static void promise06_inputBufferIsEmptyAfterwards() {
        for (String bytes : new String[] {"abc", "abcd", "dabc", "", "ab" + times(598, ".")}) {
            LyndonBench b = reading(3, bytes);
            b.readText();
            Checks.due(bytes, 0, () -> Checks.inputLength(b));
        }
    }

    @Says("Throws `IllegalStateException` if they are more than 120 letters")
    static void promise06_120LettersAreNotTooMany() {
        reads(3, times(120, "c"), times(120, "c"));
        reads(3, times(120, "c") + "d" + times(479, "c"), times(120, "c"));
    }

    @Says("Throws `IllegalStateException` if they are more than 120 letters")
    static void promise06_121LettersAreTooMany() {
        for (int length : new int[] {121, 122, 599, 600}) {
            Checks.refused(Checks.STATE, () -> reading(3, times(length, "c")), LyndonBench::readText);
        }
        Checks.refused(Checks.STATE, () -> reading(3, times(121, "c") + "d"), LyndonBench::readText);
    }

    // ---- appendLetter

    @Says("letter: a letter as a byte, a being 97")
    static void promise07_onlyTheLettersAreTaken() {
        for (int letters = 2; letters <= 9; letters++) {
            for (int letter = 90; letter <= 130; letter++) {
                int byteOf = letter;
                if (letter >= 97 && letter < 97 + letters) {
                    changed(letters, "", "1 " + (char) byteOf, b -> b.appendLetter(byteOf));
                } else {
                    changed(letters, "", Checks.ILLEGAL + " ", b -> Checks.answerOf(() -> b.appendLetter(byteOf)));
                }
            }
        }
    }

    @Says("Throws `IllegalArgumentException` if `letter` is not one of the letters")
    static void promise07_notOneOfTheLetters() {
        for (int letter : new int[] {96, 100, 0, -1, 65, 97 + 256, 97 - 256, MIN_VALUE, MAX_VALUE, 97 << 24}) {
            refused(Checks.ILLEGAL, 3, "abc", b -> b.appendLetter(letter));
        }
    }

    @Says("Throws `IllegalStateException` if the text has 120 letters")
    static void promise07_119LettersAndOneMore() {
        changed(2, times(119, "a"), "1 " + times(119, "a") + "b", b -> b.appendLetter('b'));
        changed(2, times(119, "a"), "120 " + times(120, "a"), b -> b.appendLetter('a'));
    }

    @Says("Throws `IllegalStateException` if the text has 120 letters")
    static void promise07_120LettersAndNoMore() {
        refused(Checks.STATE, 2, times(120, "a"), b -> b.appendLetter('a'));
        refused(Checks.STATE, 2, times(120, "a"), b -> b.appendLetter('b'));
    }

    @Says("If several exceptions apply to a call, the one that is listed first is thrown.")
    static void promise07_theLetterIsListedFirst() {
        refused(Checks.ILLEGAL, 2, times(120, "a"), b -> b.appendLetter('c'));
        refused(Checks.ILLEGAL, 2, times(120, "a"), b -> b.appendLetter(-1));
    }

    @Says("Returns the number of factors afterwards.")
    static void promise07_returnsTheFactorsAfterwards() {
        changed(3, "", "1 b", b -> b.appendLetter('b'));
        changed(3, "b", "2 ba", b -> b.appendLetter('a'));
        changed(3, "b", "2 bb", b -> b.appendLetter('b'));
        changed(3, "b", "1 bc", b -> b.appendLetter('c'));
        changed(3, "abab", "1 ababb", b -> b.appendLetter('b'));
        changed(3, "abab", "3 ababa", b -> b.appendLetter('a'));
    }

    // ---- dropLast

    @Says("count: 0 to the length of the text")
    static void promise08_0IsInRange() {
        changed(3, "abcab", "2 abcab", b -> b.dropLast(0));
        changed(3, "", "0 ", b -> b.dropLast(0));
    }

    @Says("count: 0 to the length of the text")
    static void promise08_theWholeTextIsInRange() {
        changed(3, "abcab", "0 ", b -> b.dropLast(5));
        changed(3, "abcab", "1 a", b -> b.dropLast(4));
        changed(2, times(120, "a"), "0 ", b -> b.dropLast(120));
        changed(2, times(120, "a"), "1 a", b -> b.dropLast(119));
    }

    @Says("Throws `IllegalArgumentException` if `count` is out of range")
    static void promise08_outOfRange() {
        for (int count : new int[] {-1, 6, 7, 120, 121, MIN_VALUE, MAX_VALUE}) {
            refused(Checks.ILLEGAL, 3, "abcab", b -> b.dropLast(count));
        }
        refused(Checks.ILLEGAL, 3, "", b -> b.dropLast(1));
        refused(Checks.ILLEGAL, 3, "", b -> b.dropLast(-1));
        refused(Checks.ILLEGAL, 3, times(120, "a"), b -> b.dropLast(121));
    }

    // ---- cutPart

    @Says("Keeps a part of the text as the text.")
    static void promise09_theWholeAndEmptyParts() {
        changed(3, "abcab", "5 abcab", b -> b.cutPart(0, 5));
        changed(3, "abcab", "0 ", b -> b.cutPart(0, 0));
        changed(3, "abcab", "0 ", b -> b.cutPart(5, 5));
        changed(3, "abcab", "0 ", b -> b.cutPart(2, 2));
        changed(3, "abcab", "1 b", b -> b.cutPart(4, 5));
        changed(3, "abcab", "1 a", b -> b.cutPart(0, 1));
        changed(3, "", "0 ", b -> b.cutPart(0, 0));
        changed(2, times(60, "ab"), "119 b" + times(59, "ab"), b -> b.cutPart(1, 120));
    }

    @Says("Throws `IllegalArgumentException` if `from` is negative, `to` is less than `from` or greater than the length")
    static void promise09_fromIsNegative() {
        refused(Checks.ILLEGAL, 3, "abcab", b -> b.cutPart(-1, 3));
        refused(Checks.ILLEGAL, 3, "abcab", b -> b.cutPart(-1, -1));
        refused(Checks.ILLEGAL, 3, "abcab", b -> b.cutPart(MIN_VALUE, 5));
        refused(Checks.ILLEGAL, 3, "", b -> b.cutPart(-1, 0));
    }

    @Says("Throws `IllegalArgumentException` if `from` is negative, `to` is less than `from` or greater than the length")
    static void promise09_toIsLessThanFrom() {
        refused(Checks.ILLEGAL, 3, "abcab", b -> b.cutPart(1, 0));
        refused(Checks.ILLEGAL, 3, "abcab", b -> b.cutPart(5, 4));
        refused(Checks.ILLEGAL, 3, "abcab", b -> b.cutPart(6, 5));
        refused(Checks.ILLEGAL, 3, "abcab", b -> b.cutPart(MAX_VALUE, MIN_VALUE));
        refused(Checks.ILLEGAL, 3, "abcab", b -> b.cutPart(0, -1));
    }

    @Says("Throws `IllegalArgumentException` if `from` is negative, `to` is less than `from` or greater than the length")
    static void promise09_toIsGreaterThanTheLength() {
        refused(Checks.ILLEGAL, 3, "abcab", b -> b.cutPart(0, 6));
        refused(Checks.ILLEGAL, 3, "abcab", b -> b.cutPart(6, 6));
        refused(Checks.ILLEGAL, 3, "abcab", b -> b.cutPart(0, MAX_VALUE));
        refused(Checks.ILLEGAL, 3, "", b -> b.cutPart(0, 1));
    }

    // ---- rotate

    @Says("A rotation of a word by n takes its first n letters and puts them behind the others, in the same order.")
    static void promise10_theFirstLettersGoBehindTheOthers() {
        changed(4, "abcd", "2 bcda", b -> b.rotate(1));
        changed(4, "abcd", "2 dabc", b -> b.rotate(3));
        changed(2, "a" + times(119, "b"), "120 " + times(119, "b") + "a", b -> b.rotate(1));
    }

    @Says("count: 0 to the length of the text")
    static void promise10_0AndTheLengthAreInRange() {
        changed(4, "bcda", "2 bcda", b -> b.rotate(0));
        changed(4, "bcda", "2 bcda", b -> b.rotate(4));
        changed(4, "", "0 ", b -> b.rotate(0));
        changed(4, "d", "1 d", b -> b.rotate(1));
        changed(2, times(119, "a") + "b", "1 " + times(119, "a") + "b", b -> b.rotate(120));
    }

    @Says("Throws `IllegalArgumentException` if `count` is out of range")
    static void promise10_outOfRange() {
        for (int count : new int[] {-1, 5, 8, 121, MIN_VALUE, MAX_VALUE}) {
            refused(Checks.ILLEGAL, 4, "bcda", b -> b.rotate(count));
        }
        refused(Checks.ILLEGAL, 4, "", b -> b.rotate(1));
        refused(Checks.ILLEGAL, 4, "", b -> b.rotate(-1));
    }

    // ---- reverse

    @Says("Reverses the text: its last letter becomes the first one, and so on.")
    static void promise11_shortTextsAndAFullOne() {
        changed(4, "", "0 ", LyndonBench::reverse);
        changed(4, "d", "1 d", LyndonBench::reverse);
        changed(4, "ad", "2 da", LyndonBench::reverse);
        changed(4, "adb", "2 bda", LyndonBench::reverse);
        changed(4, "dcba", "1 abcd", LyndonBench::reverse);
        changed(2, "b" + times(119, "a"), "1 " + times(119, "a") + "b", LyndonBench::reverse);
    }

    // ---- rotateToLeast

    @Says("Rotates the text by leastRotation().")
    static void promise12_byTheSmallestNumber() {
        changed(2, "baba", "1 abab", LyndonBench::rotateToLeast);
        changed(2, "bbb", "0 bbb", LyndonBench::rotateToLeast);
        changed(2, "abab", "0 abab", LyndonBench::rotateToLeast);
        changed(2, "bbba", "3 abbb", LyndonBench::rotateToLeast);
        changed(2, "b", "0 b", LyndonBench::rotateToLeast);
        changed(2, times(119, "b") + "a", "119 a" + times(119, "b"), LyndonBench::rotateToLeast);
        changed(2, times(60, "ba"), "1 " + times(60, "ab"), LyndonBench::rotateToLeast);
    }

    @Says("Throws `IllegalStateException` if the text is empty")
    static void promise12_theTextIsEmpty() {
        refused(Checks.STATE, 2, "", LyndonBench::rotateToLeast);
    }

    // ---- nextLyndon

    @Says("most: the greatest length, 1 to 120")
    static void promise13_1And120AreInRange() {
        changed(2, "a", "1 b", b -> b.nextLyndon(1));
        changed(9, "h", "1 i", b -> b.nextLyndon(1));
        changed(2, "a", "120 " + times(119, "a") + "b", b -> b.nextLyndon(120));
        changed(2, times(118, "a") + "b", "118 " + times(117, "a") + "b", b -> b.nextLyndon(119));
    }

    @Says("Throws `IllegalArgumentException` if `most` is out of range")
    static void promise13_0And121AreOutOfRange() {
        for (int most : new int[] {0, 121, -1, MIN_VALUE, MAX_VALUE}) {
            refused(Checks.ILLEGAL, 2, "ab", b -> b.nextLyndon(most));
        }
    }

    @Says("Throws `IllegalStateException` if the text is not a Lyndon word or has more letters, or there is no next one")
    static void promise13_theTextIsNoLyndonWord() {
        for (String text : new String[] {"", "aa", "ba", "abab", "aba", "abaab", times(120, "a")}) {
            refused(Checks.STATE, 2, text, b -> b.nextLyndon(120));
        }
    }

    @Says("Throws `IllegalStateException` if the text is not a Lyndon word or has more letters, or there is no next one")
    static void promise13_theTextHasMoreLetters() {
        refused(Checks.STATE, 2, "ab", b -> b.nextLyndon(1));
        refused(Checks.STATE, 2, "aab", b -> b.nextLyndon(2));
        refused(Checks.STATE, 2, times(119, "a") + "b", b -> b.nextLyndon(119));
        changed(2, "aab", "2 ab", b -> b.nextLyndon(3));
        changed(2, times(119, "a") + "b", "119 " + times(118, "a") + "b", b -> b.nextLyndon(120));
    }

    @Says("Throws `IllegalStateException` if the text is not a Lyndon word or has more letters, or there is no next one")
    static void promise13_thereIsNoNextOne() {
        for (int letters = 2; letters <= 9; letters++) {
            String greatest = String.valueOf((char) ('a' + letters - 1));
            refused(Checks.STATE, letters, greatest, b -> b.nextLyndon(1));
            refused(Checks.STATE, letters, greatest, b -> b.nextLyndon(120));
        }
        changed(3, "b", "1 c", b -> b.nextLyndon(1));
        changed(3, "b", "3 bbc", b -> b.nextLyndon(3));
    }

    @Says("If several exceptions apply to a call, the one that is listed first is thrown.")
    static void promise13_theRangeIsListedFirst() {
        refused(Checks.ILLEGAL, 2, "ba", b -> b.nextLyndon(0));
        refused(Checks.ILLEGAL, 2, "", b -> b.nextLyndon(121));
        refused(Checks.ILLEGAL, 2, "b", b -> b.nextLyndon(-1));
        refused(Checks.ILLEGAL, 2, "ab", b -> b.nextLyndon(0));
    }

    @Says("is the smallest Lyndon word that is greater than it and has at most n letters")
    static void promise13_fromTheSmallestWordToTheGreatest() {
        int[] most = {6, 4, 3};
        for (int letters = 2; letters <= 4; letters++) {
            int longest = most[letters - 2];
            LyndonBench b = Checks.with(letters, "a");
            StringBuilder words = new StringBuilder("a");
            for (int i = 0; i < 40 && Checks.answerOf(() -> b.nextLyndon(longest)) instanceof Integer; i++) {
                words.append(' ').append(Checks.text(b));
            }
            TreeSet<String> all = new TreeSet<>();
            for (int length = 1; length <= longest; length++) {
                all.addAll(Model.lyndonWordsOf(letters, length));
            }
            Checks.due(String.join(" ", all), () -> words);
        }
    }
}
