import static java.lang.Integer.MAX_VALUE;
import static java.lang.Integer.MIN_VALUE;

import java.util.function.Supplier;

/** Boundary cases of the promises 14 to 17 and 51 to 55: the shelf. */
final class ShelfEdges {
    private ShelfEdges() {
    }

    private static String times(int count, String part) {
        return Checks.times(count, part);
    }

    private static LyndonBench after(String commands) {
        return Checks.after("letters 3;" + commands);
    }

    /** A bench with these words on the shelf and an empty text. */
    private static LyndonBench shelf(String... words) {
        StringBuilder commands = new StringBuilder();
        for (String word : words) {
            commands.append("text ").append(word).append(";keep;");
        }
        return after(commands + (words.length == 0 ? "" : "drop " + words[words.length - 1].length() + ";"));
    }

    // ---- keepFactor

    @Says("Keeps a factor on the shelf.")
    static void promise14_theFirstAndTheLastFactor() {
        LyndonBench b = after("text cabaabaa;");
        Checks.due(1, () -> b.keepFactor(0));
        Checks.due(2, () -> b.keepFactor(4));
        Checks.due(3, () -> b.keepFactor(1));
        Checks.due(4, () -> b.keepFactor(1));
        Checks.due("3 cabaabaa [c a ab ab] 5", () -> Checks.state(b));
    }

    @Says("Throws `IndexOutOfBoundsException` if `factor` is not the number of a factor")
    static void promise14_noNumberOfAFactor() {
        for (int factor : new int[] {-1, 5, 6, 8, MIN_VALUE, MAX_VALUE}) {
            Checks.refused(Checks.INDEX, () -> after("text cabaabaa;"), b -> b.keepFactor(factor));
        }
        Checks.refused(Checks.INDEX, () -> after(""), b -> b.keepFactor(0));
        Checks.refused(Checks.INDEX, () -> after(""), b -> b.keepFactor(-1));
    }

    @Says("Throws `IllegalStateException` if it has more than 40 letters, or 8 words are kept")
    static void promise14_aFactorOf40LettersAndOfMore() {
        LyndonBench b = after("text c" + times(39, "a") + "b;");
        Checks.due(1, () -> b.keepFactor(1));
        Checks.due(40, () -> b.keptLength(0));
        Checks.due(times(39, "a") + "b", () -> Checks.shelf(b));
        Checks.refused(Checks.STATE, () -> after("text c" + times(40, "a") + "b;"), c -> c.keepFactor(1));
        Checks.refused(Checks.STATE, () -> after("text " + times(119, "a") + "b;"), c -> c.keepFactor(0));
        Checks.due(1, () -> after("text " + times(120, "a") + ";").keepFactor(119));
        Checks.due(1, () -> after("text c" + times(40, "a") + "b;").keepFactor(0));
    }

    @Says("Throws `IllegalStateException` if it has more than 40 letters, or 8 words are kept")
    static void promise14_theEighthWordAndTheNinth() {
        LyndonBench b = after("text ba;" + times(7, "keep;"));
        Checks.due(8, () -> b.keepFactor(1));
        Checks.refused(Checks.STATE, () -> after("text ba;" + times(8, "keep;")), c -> c.keepFactor(0));
    }

    @Says("If several exceptions apply to a call, the one that is listed first is thrown.")
    static void promise14_theNumberIsListedFirst() {
        Checks.refused(Checks.INDEX, () -> after("text ba;" + times(8, "keep;")), b -> b.keepFactor(2));
        Checks.refused(Checks.INDEX, () -> after("text ba;" + times(8, "keep;")), b -> b.keepFactor(-1));
    }

    // ---- keepText

    @Says("Throws `IllegalStateException` if it is empty or has more than 40 letters, or 8 words are kept")
    static void promise15_anEmptyTextAndOneOf1Letter() {
        Checks.refused(Checks.STATE, () -> after(""), LyndonBench::keepText);
        LyndonBench b = after("text c;");
        Checks.due(1, b::keepText);
        Checks.due("3 c [c] 2", () -> Checks.state(b));
    }

    @Says("Throws `IllegalStateException` if it is empty or has more than 40 letters, or 8 words are kept")
    static void promise15_aTextOf40LettersAndOfMore() {
        LyndonBench b = after("text " + times(40, "c") + ";");
        Checks.due(1, b::keepText);
        Checks.due(times(40, "c"), () -> Checks.shelf(b));
        Checks.refused(Checks.STATE, () -> after("text " + times(41, "c") + ";"), LyndonBench::keepText);
        Checks.refused(Checks.STATE, () -> after("text " + times(120, "c") + ";"), LyndonBench::keepText);
    }

    @Says("Throws `IllegalStateException` if it is empty or has more than 40 letters, or 8 words are kept")
    static void promise15_theEighthWordAndTheNinth() {
        LyndonBench b = after("text ba;" + times(7, "keep 0;"));
        Checks.due(8, b::keepText);
        Checks.due("b b b b b b b ba", () -> Checks.shelf(b));
        Checks.refused(Checks.STATE, () -> after("text ba;" + times(8, "keep 0;")), LyndonBench::keepText);
    }

    @Says("At most 8 words of 1 to 40 letters can be kept on the shelf; they are numbered from 0 in the order")
    static void promise15_eightWordsOf40Letters() {
        StringBuilder commands = new StringBuilder();
        for (int i = 0; i < 8; i++) {
            commands.append("text ").append(times(i, "a")).append(times(40 - i, "b")).append(";keep;");
        }
        LyndonBench b = after(commands.toString());
        for (int i = 0; i < 8; i++) {
            int kept = i;
            Checks.due(40, () -> b.keptLength(kept));
            Checks.due("the last a of word " + kept, kept == 0 ? -1 : 97, () -> b.keptLetter(kept, kept - 1));
            Checks.due("the first b of word " + kept, 98, () -> b.keptLetter(kept, kept));
            Checks.due("the last letter of word " + kept, 98, () -> b.keptLetter(kept, 39));
        }
    }

    @Says("Keeps the text on the shelf.")
    static void promise15_aKeptWordStaysWhenTheTextChanges() {
        LyndonBench b = after("text abc;keep;");
        b.reverse();
        b.appendLetter('a');
        b.dropLast(3);
        Checks.due("3 c [abc] 4", () -> Checks.state(b));
    }

    // ---- removeKept

    @Says("When one is removed, the numbers of those behind it become 1 less.")
    static void promise16_theFirstTheLastAndOneBetween() {
        String[] want = {"ba c ab bb", "a c ab bb", "a ba ab bb", "a ba c bb", "a ba c ab"};
        for (int i = 0; i < 5; i++) {
            int kept = i;
            LyndonBench b = shelf("a", "ba", "c", "ab", "bb");
            Checks.due(4, () -> b.removeKept(kept));
            Checks.due(want[kept], () -> Checks.shelf(b));
        }
    }

    @Says("Returns the number of kept words afterwards.")
    static void promise16_from8WordsTo0() {
        LyndonBench b = after("text ba;" + times(8, "keep;"));
        for (int left = 7; left >= 0; left--) {
            int want = left;
            Checks.due(want, () -> b.removeKept(want));
        }
        Checks.due(Checks.INDEX, () -> b.removeKept(0));
        Checks.due(1, b::keepText);
    }

    @Says("At most 8 words of 1 to 40 letters can be kept on the shelf")
    static void promise16_makesRoomForAnotherWord() {
        LyndonBench b = after("text a;" + times(8, "keep;") + "text bc;");
        Checks.due(Checks.STATE, b::keepText);
        Checks.due(7, () -> b.removeKept(3));
        Checks.due(8, b::keepText);
        Checks.due("a a a a a a a bc", () -> Checks.shelf(b));
    }

    @Says("Throws `IndexOutOfBoundsException` if `kept` is not the number of a kept word")
    static void promise16_noNumberOfAKeptWord() {
        for (int kept : new int[] {-1, 2, 3, 7, 8, MIN_VALUE, MAX_VALUE}) {
            Checks.refused(Checks.INDEX, () -> shelf("a", "b"), b -> b.removeKept(kept));
        }
        Checks.refused(Checks.INDEX, () -> shelf(), b -> b.removeKept(0));
        Checks.refused(Checks.INDEX, () -> after("text a;" + times(8, "keep;")), b -> b.removeKept(8));
    }

    // ---- joinKept

    private static void joins(String want, Supplier<LyndonBench> maker) {
        LyndonBench b = maker.get();
        String shelf = Checks.shelf(b);
        Checks.due(want.length(), b::joinKept);
        Checks.due(want, () -> Checks.text(b));
        Checks.due("the shelf stays", shelf, () -> Checks.shelf(b));
    }

    @Says("Makes all kept words, joined from the greatest one to the smallest one, the text. The shelf stays.")
    static void promise17_fromTheGreatestToTheSmallest() {
        joins("cbbba", () -> shelf("a", "b", "bb", "c"));
        joins("cbbba", () -> shelf("c", "bb", "b", "a"));
        joins("babab", () -> shelf("ba", "b", "ba"));
        joins("aaaaaa", () -> shelf("a", "aaa", "aa"));
        joins("abaaaba", () -> shelf("aba", "abaa"));
        joins("c", () -> shelf("c"));
        joins("abcabc", () -> shelf("abc", "abc"));
        joins("ccccbbaa", () -> shelf("a", "c", "b", "c", "a", "c", "b", "c"));
    }

    @Says("a word that is the beginning of another one comes before it")
    static void promise17_theLongerOfTwoBeginningsFirst() {
        joins("abaab", () -> shelf("ab", "aba"));
        joins("abaab", () -> shelf("aba", "ab"));
        joins("bab", () -> shelf("b", "ba"));
    }

    @Says("Throws `IllegalStateException` if there is no kept word, or the text would have more than 120 letters")
    static void promise17_noKeptWord() {
        Checks.refused(Checks.STATE, () -> after(""), LyndonBench::joinKept);
        Checks.refused(Checks.STATE, () -> after("text abc;"), LyndonBench::joinKept);
        Checks.refused(Checks.STATE, () -> after("text abc;keep;remove 0;"), LyndonBench::joinKept);
    }

    @Says("Throws `IllegalStateException` if there is no kept word, or the text would have more than 120 letters")
    static void promise17_120LettersAndMore() {
        joins(times(120, "c"), () -> after("text " + times(40, "c") + ";keep;keep;keep;text a;"));
        joins(times(120, "c"), () -> after("text " + times(15, "c") + ";repeat 8(keep;);"));
        Checks.refused(Checks.STATE, () -> after("text " + times(40, "c") + ";keep;keep;keep;text a;keep;"),
            LyndonBench::joinKept);
        Checks.refused(Checks.STATE, () -> after("text " + times(40, "c") + ";repeat 8(keep;);"),
            LyndonBench::joinKept);
    }

    @Says("Makes all kept words, joined from the greatest one to the smallest one, the text.")
    static void promise17_theOldTextDoesNotCount() {
        joins("ba", () -> after("text ba;keep;text " + times(120, "c") + ";"));
    }

    // ---- keptCount

    @Says("Returns the number of kept words.")
    static void promise51_from0To8() {
        LyndonBench b = after("text a;");
        for (int count = 0; count < 8; count++) {
            Checks.due(count, b::keptCount);
            b.keepText();
        }
        Checks.due(8, b::keptCount);
        Checks.answerOf(b::keepText);
        Checks.due(8, b::keptCount);
    }

    // ---- keptLength

    @Says("Returns the length of a kept word.")
    static void promise52_lengths1And40() {
        LyndonBench b = shelf("c", times(40, "b"));
        Checks.due(1, () -> b.keptLength(0));
        Checks.due(40, () -> b.keptLength(1));
    }

    @Says("Throws `IndexOutOfBoundsException` if `kept` is not the number of a kept word")
    static void promise52_noNumberOfAKeptWord() {
        LyndonBench b = shelf("a", "b");
        b.removeKept(1);
        Checks.all(Checks.INDEX, () -> b.keptLength(1), () -> b.keptLength(-1), () -> b.keptLength(MIN_VALUE),
            () -> b.keptLength(MAX_VALUE), () -> shelf().keptLength(0),
            () -> after("text a;" + times(8, "keep;")).keptLength(8));
        Checks.due(1, () -> after("text a;" + times(8, "keep;")).keptLength(7));
    }

    // ---- keptLetter

    @Says("Returns the letter as a byte, or NONE if there is no such letter.")
    static void promise53_theFirstAndTheLastLetter() {
        LyndonBench b = shelf("cab", "b" + times(38, "a") + "c");
        Checks.due("99 98", () -> b.keptLetter(0, 0) + " " + b.keptLetter(0, 2));
        Checks.due("98 99", () -> b.keptLetter(1, 0) + " " + b.keptLetter(1, 39));
        Checks.due("-1 -1 -1 -1", () -> b.keptLetter(0, -1) + " " + b.keptLetter(0, 3) + " "
            + b.keptLetter(0, MIN_VALUE) + " " + b.keptLetter(0, MAX_VALUE));
        Checks.due("-1 -1", () -> b.keptLetter(1, 40) + " " + b.keptLetter(1, -1));
    }

    @Says("Returns the letter as a byte, or NONE if there is no such letter.")
    static void promise53_noLetterOfALongerWordThatWasThere() {
        LyndonBench b = shelf("aaaa", "b");
        b.removeKept(0);
        Checks.due("98 -1", () -> b.keptLetter(0, 0) + " " + b.keptLetter(0, 1));
    }

    @Says("Throws `IndexOutOfBoundsException` if `kept` is not the number of a kept word")
    static void promise53_noNumberOfAKeptWord() {
        LyndonBench b = shelf("a", "b");
        b.removeKept(0);
        Checks.all(Checks.INDEX, () -> b.keptLetter(1, 0), () -> b.keptLetter(-1, 0), () -> b.keptLetter(MIN_VALUE, 0),
            () -> b.keptLetter(MAX_VALUE, 0), () -> b.keptLetter(1, -1), () -> shelf().keptLetter(0, 0),
            () -> shelf().keptLetter(0, -1), () -> after("text a;" + times(8, "keep;")).keptLetter(8, 0));
    }

    // ---- isShelfFalling and greatestKept

    @Says("Returns whether no kept word is greater than the one before it.")
    static void promise54_noneAndOneAndEqualOnes() {
        Checks.due(true, () -> shelf().isShelfFalling());
        Checks.due(true, () -> shelf("a").isShelfFalling());
        Checks.due(true, () -> shelf("ab", "ab").isShelfFalling());
        Checks.due(true, () -> shelf("c", "bb", "bb", "b", "ab", "aa", "a", "a").isShelfFalling());
    }

    @Says("Returns whether no kept word is greater than the one before it.")
    static void promise54_aGreaterOneAnywhere() {
        Checks.due(false, () -> shelf("a", "b").isShelfFalling());
        Checks.due(false, () -> shelf("b", "a", "a", "a", "a", "a", "a", "aa").isShelfFalling());
        Checks.due(false, () -> shelf("a", "aa", "a").isShelfFalling());
        Checks.due(false, () -> shelf("c", "a", "b").isShelfFalling());
        Checks.due(true, () -> shelf("aa", "a").isShelfFalling());
    }

    @Says("Returns the number of the greatest kept word, of several the first one; NONE if there is none.")
    static void promise55_noneIfThereIsNone() {
        Checks.due(-1, () -> shelf().greatestKept());
        LyndonBench b = shelf("a");
        b.removeKept(0);
        Checks.due(-1, b::greatestKept);
    }

    @Says("Returns the number of the greatest kept word, of several the first one; NONE if there is none.")
    static void promise55_ofSeveralTheFirstOne() {
        Checks.due(0, () -> shelf("b", "b").greatestKept());
        Checks.due(1, () -> shelf("a", "b", "ab", "b").greatestKept());
        Checks.due(0, () -> shelf("c", "c", "c", "c", "c", "c", "c", "c").greatestKept());
        Checks.due(7, () -> shelf("c", "c", "c", "c", "c", "c", "c", "ca").greatestKept());
        Checks.due(0, () -> shelf("a").greatestKept());
    }
}
