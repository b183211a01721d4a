/** Boundary cases of the promises 37 to 47: what kind of word the text is, its rotations, periods and borders. */
final class WordEdges {
    private WordEdges() {
    }

    private static String times(int count, String part) {
        return Checks.times(count, part);
    }

    private static LyndonBench with(String text) {
        return Checks.with(3, text);
    }

    // ---- isLyndon and whyNotLyndon

    @Says("A Lyndon word is a primitive necklace.")
    static void promise37_emptyAndShortTexts() {
        Checks.due(false, () -> with("").isLyndon());
        Checks.due(true, () -> with("a").isLyndon());
        Checks.due(true, () -> with("c").isLyndon());
        Checks.due(true, () -> with("ab").isLyndon());
        Checks.due(false, () -> with("aa").isLyndon());
        Checks.due(false, () -> with("ba").isLyndon());
    }

    @Says("A Lyndon word is a primitive necklace.")
    static void promise37_textsOf120Letters() {
        Checks.due(true, () -> with(times(119, "a") + "b").isLyndon());
        Checks.due(true, () -> with("a" + times(119, "b")).isLyndon());
        Checks.due(false, () -> with(times(120, "a")).isLyndon());
        Checks.due(false, () -> with(times(60, "ab")).isLyndon());
        Checks.due(false, () -> with("b" + times(119, "a")).isLyndon());
        Checks.due(true, () -> with(times(59, "ab") + "ac").isLyndon());
    }

    @Says("Returns LYNDON, or the first one that applies: EMPTY, the text is empty; NOT_PRIMITIVE, it is not primitive;")
    static void promise38_eachReason() {
        Checks.due(0, () -> with("a").whyNotLyndon());
        Checks.due(0, () -> with("aabab").whyNotLyndon());
        Checks.due(1, () -> with("").whyNotLyndon());
        Checks.due(2, () -> with("cc").whyNotLyndon());
        Checks.due(2, () -> with("abab").whyNotLyndon());
        Checks.due(3, () -> with("ba").whyNotLyndon());
        Checks.due(3, () -> with("aba").whyNotLyndon());
    }

    @Says("Returns LYNDON, or the first one that applies: EMPTY, the text is empty; NOT_PRIMITIVE, it is not primitive;")
    static void promise38_notPrimitiveBeforeASmallerRotation() {
        Checks.due(2, () -> with("baba").whyNotLyndon());
        Checks.due(2, () -> with(times(40, "cab")).whyNotLyndon());
        Checks.due(2, () -> with(times(2, "b" + times(59, "a"))).whyNotLyndon());
    }

    @Says("if it is not empty and does not equal any of its rotations by 1 to its length minus 1")
    static void promise38_oneLetterIsPrimitive() {
        Checks.due(0, () -> with("c").whyNotLyndon());
        Checks.due(3, () -> with("aba").whyNotLyndon());
        Checks.due(3, () -> with("ababa").whyNotLyndon());
    }

    @Says("Why a text is not a Lyndon word, and 0 if it is one.")
    static void promise38_theConstants() {
        Checks.due("0 1 2 3 -1", () -> LyndonBench.LYNDON + " " + LyndonBench.EMPTY + " " + LyndonBench.NOT_PRIMITIVE
            + " " + LyndonBench.SMALLER_ROTATION + " " + LyndonBench.NONE);
    }

    // ---- isNecklace and isPrenecklace

    @Says("A necklace is a word that is not empty and not greater than any of its rotations.")
    static void promise39_emptyOneLetterAndEqualRotations() {
        Checks.due(false, () -> with("").isNecklace());
        Checks.due(true, () -> with("c").isNecklace());
        Checks.due(true, () -> with("ccc").isNecklace());
        Checks.due(true, () -> with("abab").isNecklace());
        Checks.due(false, () -> with("baba").isNecklace());
        Checks.due(false, () -> with("aba").isNecklace());
        Checks.due(true, () -> with(times(120, "a")).isNecklace());
        Checks.due(true, () -> with(times(60, "ab")).isNecklace());
        Checks.due(false, () -> with("b" + times(119, "a")).isNecklace());
    }

    @Says("A prenecklace is a word that is not empty and the beginning of some necklace of these letters, perhaps of a")
    static void promise40_emptyAndBeginningsOfLongerNecklaces() {
        Checks.due(false, () -> with("").isPrenecklace());
        Checks.due(true, () -> with("c").isPrenecklace());
        Checks.due(true, () -> with("aba").isPrenecklace());
        Checks.due(true, () -> with("ababa").isPrenecklace());
        Checks.due(false, () -> with("abaa").isPrenecklace());
        Checks.due(false, () -> with("ba").isPrenecklace());
        Checks.due(true, () -> with(times(120, "c")).isPrenecklace());
        Checks.due(true, () -> with(times(59, "ab") + "a").isPrenecklace());
        Checks.due(false, () -> with(times(59, "ab") + "aa").isPrenecklace());
    }

    @Says("the beginning of some necklace of these letters")
    static void promise40_ofTheLettersThatThereAre() {
        Checks.due(true, () -> Checks.with(2, "bb").isPrenecklace());
        Checks.due(true, () -> Checks.with(2, "bbb").isPrenecklace());
        Checks.due(true, () -> Checks.with(2, "abba").isPrenecklace());
        Checks.due(true, () -> Checks.with(9, "ii").isPrenecklace());
        Checks.due(false, () -> Checks.with(9, "ih").isPrenecklace());
    }

    // ---- keepingLetter

    @Says("Returns the smallest letter (as a byte) with which, appended to it, the text would still be a prenecklace;")
    static void promise41_theSmallestLetter() {
        Checks.due(97, () -> with("a").keepingLetter());
        Checks.due(99, () -> with("c").keepingLetter());
        Checks.due(97, () -> with("ab").keepingLetter());
        Checks.due(98, () -> with("aba").keepingLetter());
        Checks.due(97, () -> with("abac").keepingLetter());
        Checks.due(99, () -> with("abacaba").keepingLetter());
        Checks.due(105, () -> Checks.with(9, "ii").keepingLetter());
    }

    @Says("NONE if it is none.")
    static void promise41_noneIfItIsNoPrenecklace() {
        Checks.due(-1, () -> with("").keepingLetter());
        Checks.due(-1, () -> with("ba").keepingLetter());
        Checks.due(-1, () -> with("abaa").keepingLetter());
        Checks.due(-1, () -> with("b" + times(119, "a")).keepingLetter());
    }

    @Says("Returns the smallest letter (as a byte) with which, appended to it, the text would still be a prenecklace;")
    static void promise41_alsoBehind120Letters() {
        Checks.due(97, () -> with(times(120, "a")).keepingLetter());
        Checks.due(97, () -> with(times(119, "a") + "b").keepingLetter());
        Checks.due(97, () -> with(times(60, "ab")).keepingLetter());
        Checks.due(98, () -> with(times(120, "b")).keepingLetter());
        Checks.due(99, () -> with(times(120, "c")).keepingLetter());
    }

    // ---- leastRotation and rotationCount

    @Says("0 if it is empty")
    static void promise42_0IfTheTextIsEmpty() {
        Checks.due(0, () -> with("").leastRotation());
        Checks.due(0, () -> with("c").leastRotation());
    }

    @Says("Returns the smallest number of letters by which the text must be rotated to get its smallest rotation")
    static void promise42_ofSeveralTheSmallestNumber() {
        Checks.due(0, () -> with("abab").leastRotation());
        Checks.due(1, () -> with("baba").leastRotation());
        Checks.due(0, () -> with(times(120, "c")).leastRotation());
        Checks.due(1, () -> with(times(60, "ba")).leastRotation());
        Checks.due(2, () -> with(times(40, "bca")).leastRotation());
        Checks.due(119, () -> with(times(119, "b") + "a").leastRotation());
        Checks.due(1, () -> with("b" + times(119, "a")).leastRotation());
        Checks.due(61, () -> with(times(60, "b") + "b" + times(59, "a")).leastRotation());
    }

    @Says("Returns the smallest number of letters by which the text must be rotated to get its smallest rotation")
    static void promise42_allTextsOfUpTo8Letters() {
        for (int length = 1; length <= 8; length++) {
            for (String text : Model.words(length <= 5 ? 3 : 2, length)) {
                int least = 0;
                for (int count = 1; count < length; count++) {
                    if (Model.rotated(text, count).compareTo(Model.rotated(text, least)) < 0) {
                        least = count;
                    }
                }
                Checks.due(text, least, () -> with(text).leastRotation());
            }
        }
    }

    @Says("Returns the number of different rotations of the text; 0 if it is empty.")
    static void promise43_0And1AndTheLength() {
        Checks.due(0, () -> with("").rotationCount());
        Checks.due(1, () -> with("c").rotationCount());
        Checks.due(1, () -> with(times(120, "c")).rotationCount());
        Checks.due(2, () -> with(times(60, "ab")).rotationCount());
        Checks.due(60, () -> with(times(2, times(59, "a") + "b")).rotationCount());
        Checks.due(120, () -> with(times(119, "a") + "b").rotationCount());
        Checks.due(3, () -> with("aba").rotationCount());
        Checks.due(5, () -> with("ababa").rotationCount());
    }

    // ---- smallestPeriod and longestBorder

    @Says("Returns the smallest period of the text; 0 if it is empty.")
    static void promise44_from0ToTheLength() {
        Checks.due(0, () -> with("").smallestPeriod());
        Checks.due(1, () -> with("c").smallestPeriod());
        Checks.due(1, () -> with("cc").smallestPeriod());
        Checks.due(2, () -> with("ab").smallestPeriod());
        Checks.due(120, () -> with(times(119, "a") + "b").smallestPeriod());
        Checks.due(119, () -> with("b" + times(118, "a") + "b").smallestPeriod());
        Checks.due(1, () -> with(times(120, "b")).smallestPeriod());
        Checks.due(60, () -> with(times(2, times(59, "a") + "b")).smallestPeriod());
    }

    @Says("such that each letter equals the one p positions behind it, if there is one")
    static void promise44_thePeriodNeedNotDivideTheLength() {
        Checks.due(2, () -> with("aba").smallestPeriod());
        Checks.due(3, () -> with("abca").smallestPeriod());
        Checks.due(3, () -> with("abcabcab").smallestPeriod());
        Checks.due(4, () -> with("abcbab").smallestPeriod());
    }

    @Says("Returns the length of the longest border of the text; 0 if it is empty.")
    static void promise45_0IfThereIsNone() {
        Checks.due(0, () -> with("").longestBorder());
        Checks.due(0, () -> with("c").longestBorder());
        Checks.due(0, () -> with("ab").longestBorder());
        Checks.due(0, () -> with(times(119, "a") + "b").longestBorder());
    }

    @Says("A border is a word, shorter than the text, with which the text begins and ends.")
    static void promise45_shorterThanTheTextButPerhapsLongerThanHalf() {
        Checks.due(1, () -> with("cc").longestBorder());
        Checks.due(1, () -> with("aba").longestBorder());
        Checks.due(3, () -> with("ababa").longestBorder());
        Checks.due(119, () -> with(times(120, "c")).longestBorder());
        Checks.due(118, () -> with(times(60, "ab")).longestBorder());
        Checks.due(60, () -> with(times(2, times(59, "a") + "b")).longestBorder());
    }

    // ---- leastSuffix and greatestSuffix

    @Says("not counting the empty one; NONE if it is empty")
    static void promise46_theEmptyWordDoesNotCount() {
        Checks.due(-1, () -> with("").leastSuffix());
        Checks.due(0, () -> with("c").leastSuffix());
        Checks.due(1, () -> with("ba").leastSuffix());
        Checks.due(0, () -> with("ab").leastSuffix());
    }

    @Says("a word that is the beginning of another one comes before it")
    static void promise46_ofEqualBeginningsTheShorterOne() {
        Checks.due(119, () -> with(times(120, "a")).leastSuffix());
        Checks.due(4, () -> with("aacaa").leastSuffix());
        Checks.due(118, () -> with(times(60, "ab")).leastSuffix());
        Checks.due(0, () -> with(times(119, "a") + "b").leastSuffix());
        Checks.due(2, () -> with("abaab").leastSuffix());
    }

    @Says("Returns the position at which the greatest word begins with which the text ends; NONE if it is empty.")
    static void promise47_ofEqualBeginningsTheLongerOne() {
        Checks.due(-1, () -> with("").greatestSuffix());
        Checks.due(0, () -> with("c").greatestSuffix());
        Checks.due(0, () -> with(times(120, "c")).greatestSuffix());
        Checks.due(1, () -> with(times(60, "ab")).greatestSuffix());
        Checks.due(119, () -> with(times(119, "a") + "b").greatestSuffix());
        Checks.due(0, () -> with("b" + times(119, "a")).greatestSuffix());
        Checks.due(0, () -> with("cac").greatestSuffix());
        Checks.due(2, () -> with("cacca").greatestSuffix());
    }
}
