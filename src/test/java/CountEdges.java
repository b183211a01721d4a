import static java.lang.Integer.MAX_VALUE;
import static java.lang.Integer.MIN_VALUE;

/** Boundary cases of the promises 48 to 50: how many words there are, and the Bruijn rows. */
final class CountEdges {
    private static final int[] GREATEST_ORDERS = {12, 7, 6, 5, 4, 4, 4, 3};

    private CountEdges() {
    }

    @Says("length: 1 to 18")
    static void promise48_eachLengthFrom1To18() {
        for (int letters = 2; letters <= 9; letters++) {
            int n = letters;
            LyndonBench b = Checks.with(n, "");
            for (int i = 1; i <= 18; i++) {
                int length = i;
                Checks.due(n + " letters", Model.primitiveWords(n, length) / length, () -> b.lyndonWords(length));
            }
        }
        Checks.due(14532L, () -> Checks.with(2, "").lyndonWords(18));
        Checks.due(8338590828280440L, () -> Checks.with(9, "").lyndonWords(18));
    }

    @Says("Throws `IllegalArgumentException` if `length` is out of range")
    static void promise48_0And19AreOutOfRange() {
        LyndonBench b = new LyndonBench();
        for (int length : new int[] {0, 19, -1, 20, MIN_VALUE, MAX_VALUE}) {
            Checks.due(Checks.ILLEGAL, () -> b.lyndonWords(length));
        }
    }

    @Says("Returns the number of these words of all letters.")
    static void promise48_ofAllLettersNotOfThoseOfTheText() {
        LyndonBench b = Checks.with(4, "a");
        Checks.due(4L, () -> b.lyndonWords(1));
        b.setLetters(2);
        Checks.due(2L, () -> b.lyndonWords(1));
        Checks.due(1L, () -> b.lyndonWords(2));
    }

    @Says("length: 1 to 18")
    static void promise49_eachLengthFrom1To18() {
        for (int letters = 2; letters <= 9; letters++) {
            int n = letters;
            LyndonBench b = Checks.with(n, "");
            for (int i = 1; i <= 18; i++) {
                int length = i;
                long all = 0;
                for (int divisor = 1; divisor <= length; divisor++) {
                    all += length % divisor == 0 ? Model.primitiveWords(n, divisor) / divisor : 0;
                }
                Checks.due(n + " letters", all, () -> b.necklaces(length));
            }
        }
        Checks.due(14602L, () -> Checks.with(2, "").necklaces(18));
        Checks.due(8338590871415805L, () -> Checks.with(9, "").necklaces(18));
    }

    @Says("Throws `IllegalArgumentException` if `length` is out of range")
    static void promise49_0And19AreOutOfRange() {
        LyndonBench b = new LyndonBench();
        for (int length : new int[] {0, 19, -1, 20, MIN_VALUE, MAX_VALUE}) {
            Checks.due(Checks.ILLEGAL, () -> b.necklaces(length));
        }
    }

    @Says("order: 1 to 12, with which the row has at most 4096 letters")
    static void promise50_theGreatestOrders() {
        for (int letters = 2; letters <= 9; letters++) {
            int greatest = GREATEST_ORDERS[letters - 2];
            int n = letters;
            LyndonBench b = Checks.with(n, "");
            Checks.due(n + " letters, order 1", 97, () -> b.bruijnLetter(1, 0));
            Checks.due(n + " letters, order " + greatest, 97, () -> b.bruijnLetter(greatest, 0));
            for (int order = greatest + 1; order <= 14; order++) {
                int tooGreat = order;
                Checks.due(n + " letters, order " + order, Checks.ILLEGAL, () -> b.bruijnLetter(tooGreat, 0));
            }
        }
    }

    @Says("Throws `IllegalArgumentException` if `order` is out of range")
    static void promise50_0And13AreOutOfRange() {
        LyndonBench b = Checks.with(2, "");
        for (int order : new int[] {0, 13, -1, 14, 64, MIN_VALUE, MAX_VALUE}) {
            Checks.due(Checks.ILLEGAL, () -> b.bruijnLetter(order, 0));
        }
        Checks.due(97, () -> b.bruijnLetter(12, 0));
        Checks.due(97, () -> b.bruijnLetter(1, 0));
    }

    @Says("its length is the number of letters to the power of n")
    static void promise50_theFirstAndTheLastLetter() {
        for (int letters = 2; letters <= 9; letters++) {
            int n = letters;
            LyndonBench b = Checks.with(n, "");
            int length = 1;
            for (int i = 1; i <= GREATEST_ORDERS[n - 2]; i++) {
                length *= n;
                int order = i;
                int last = length - 1;
                String what = n + " letters, order " + order;
                Checks.due(what, 97, () -> b.bruijnLetter(order, 0));
                Checks.due(what, 96 + n, () -> b.bruijnLetter(order, last));
                Checks.due(what, Checks.INDEX, () -> b.bruijnLetter(order, last + 1));
                Checks.due(what, Checks.INDEX, () -> b.bruijnLetter(order, -1));
            }
        }
        Checks.due(98, () -> Checks.with(2, "").bruijnLetter(12, 4095));
        Checks.due(Checks.INDEX, () -> Checks.with(2, "").bruijnLetter(12, 4096));
    }

    @Says("Throws `IndexOutOfBoundsException` if the row has no such letter")
    static void promise50_noSuchLetter() {
        LyndonBench b = Checks.with(2, "");
        for (int index : new int[] {-1, 8, 9, 4096, MIN_VALUE, MAX_VALUE}) {
            Checks.due(Checks.INDEX, () -> b.bruijnLetter(3, index));
        }
    }

    @Says("If several exceptions apply to a call, the one that is listed first is thrown.")
    static void promise50_theOrderIsListedFirst() {
        LyndonBench b = Checks.with(9, "");
        Checks.all(Checks.ILLEGAL, () -> b.bruijnLetter(0, -1), () -> b.bruijnLetter(4, 6561),
            () -> b.bruijnLetter(13, MAX_VALUE), () -> b.bruijnLetter(MIN_VALUE, MIN_VALUE));
    }

    @Says("is the concatenation of all Lyndon words whose lengths divide n, from the smallest one to the greatest")
    static void promise50_theWordsWhoseLengthsDivideTheOrder() {
        String[] rows = {"ab", "aabb", "aaababbb", "aaaabaabbababbbb"};
        for (int order = 1; order <= 4; order++) {
            LyndonBench b = Checks.with(2, "");
            StringBuilder row = new StringBuilder();
            for (int i = 0; i < rows[order - 1].length(); i++) {
                row.append((char) b.bruijnLetter(order, i));
            }
            Checks.due(rows[order - 1], () -> row);
        }
        LyndonBench six = Checks.with(2, "");
        String want = "a|aaaaab|aaaabb|aaabab|aaabbb|aab|aababb|aabbab|aabbbb|ab|ababbb|abb|abbbbb|b".replace("|", "");
        StringBuilder row = new StringBuilder();
        for (int i = 0; i < 64; i++) {
            row.append((char) six.bruijnLetter(6, i));
        }
        Checks.due(want, () -> row);
    }
}
