import static java.lang.Integer.MAX_VALUE;
import static java.lang.Integer.MIN_VALUE;

/** Boundary cases of the promises 56 to 60: means, checks and the report. */
final class ReportEdges {
    private ReportEdges() {
    }

    private static String times(int count, String part) {
        return Checks.times(count, part);
    }

    private static LyndonBench with(String text) {
        return Checks.with(3, text);
    }

    // ---- means and checks

    @Says("both converted to double; 0.0 if it is empty")
    static void promise56_0IfTheTextIsEmpty() {
        Checks.due(0.0, () -> with("").meanFactor());
        LyndonBench b = with("a");
        b.dropLast(1);
        Checks.due(0.0, b::meanFactor);
    }

    @Says("Returns the length of the text divided by the number of its factors, both converted to double")
    static void promise56_from1To120() {
        Checks.due(1.0, () -> with("c").meanFactor());
        Checks.due(1.0, () -> with(times(120, "c")).meanFactor());
        Checks.due(120.0, () -> with(times(119, "a") + "b").meanFactor());
        Checks.due(1.5, () -> with("aba").meanFactor());
        Checks.due(14.0 / 3.0, () -> new LyndonBench().meanFactor());
        Checks.due(119.0 / 118.0, () -> with("ab" + times(117, "a")).meanFactor());
    }

    @Says("Returns the number of Lyndon words of 6 letters divided by the number of necklaces of 6 letters, both converted")
    static void promise57_from2To9Letters() {
        long[] words = {9, 116, 670, 2580, 7735, 19544, 43596, 88440};
        long[] necklaces = {14, 130, 700, 2635, 7826, 19684, 43800, 88725};
        for (int letters = 2; letters <= 9; letters++) {
            int n = letters;
            Checks.due(n + " letters", (float) words[n - 2] / (float) necklaces[n - 2],
                () -> Checks.with(n, "").lyndonShare());
            Checks.due(n + " letters", words[n - 2], () -> Checks.with(n, "").lyndonWords(6));
            Checks.due(n + " letters", necklaces[n - 2], () -> Checks.with(n, "").necklaces(6));
        }
    }

    @Says("it is always 0")
    static void promise58_isAlways0() {
        String[] texts = {"", "a", "c", "ab", "ba", "aa", "cba", "abcabc", times(120, "c"), times(119, "a") + "b",
            "b" + times(119, "a"), times(60, "ab"), times(60, "ba"), times(40, "cba"), times(15, "abacabab")};
        for (String text : texts) {
            Checks.due(text, 0, () -> with(text).violations());
        }
        for (int length = 1; length <= 7; length++) {
            for (String text : Model.words(2, length)) {
                Checks.due(text, 0, () -> with(text).violations());
            }
        }
    }

    // ---- writeFactors

    private static void written(String text, String want) {
        LyndonBench b = with(text);
        Checks.due(text, want.length(), b::writeFactors);
        Checks.due(text, want, () -> Checks.report(b));
    }

    @Says("with equal ones written once and separated by vertical bars (byte 124)")
    static void promise59_barsOnlyBetweenFactors() {
        written("", "");
        written("c", "c");
        written("ab", "ab");
        written("ba", "b|a");
        written("cabaac", "c|ab|aac");
        written("cccbbba", "c^3|b^3|a");
    }

    @Says("if the power is greater than 1, a circumflex (byte 94) and the power follow")
    static void promise59_powersFrom1To120() {
        for (int power = 1; power <= 120; power++) {
            written(times(power, "c"), power == 1 ? "c" : "c^" + power);
        }
        written(times(60, "ab"), "ab^60");
        written("caa", "c|a^2");
        written("cca", "c^2|a");
        written(times(2, "b") + times(118, "a"), "b^2|a^118");
    }

    @Says("Returns the length in bytes of the report that is written")
    static void promise59_theLongestReports() {
        written(times(119, "a") + "b", times(119, "a") + "b");
        StringBuilder text = new StringBuilder();
        StringBuilder report = new StringBuilder();
        for (char letter = 'i'; letter >= 'a'; letter--) {
            text.append(times(2, String.valueOf(letter)));
            report.append(letter).append("^2").append(letter == 'a' ? "" : "|");
        }
        LyndonBench b = Checks.with(9, text.toString());
        Checks.due(35, b::writeFactors);
        Checks.due(report, () -> Checks.report(b));
        String many = "iihhggffeedd" + "cicichch" + "cgcgcfcfcecececdcdcdcccc" + "bibibhbhbgbgbfbfbebebdbdbcbcbb"
            + "aiaiahahagagafafaeaeadadacacabababaa";
        LyndonBench c = Checks.with(9, many);
        Checks.due(reportOf(many), () -> c.writeFactors() + " " + Checks.report(c));
    }

    /** The length of the report and the report, from the model's factors. */
    private static String reportOf(String text) {
        StringBuilder report = new StringBuilder();
        String last = "";
        int power = 0;
        for (String factor : Model.factors(text)) {
            if (!factor.equals(last)) {
                report.append(power > 1 ? "^" + power : "").append(last.isEmpty() ? "" : "|").append(factor);
                power = 0;
            }
            power++;
            last = factor;
        }
        report.append(power > 1 ? "^" + power : "");
        return report.length() + " " + report;
    }

    @Says("in place of the previous report")
    static void promise59_inPlaceOfThePreviousReport() {
        LyndonBench b = with("cba");
        Checks.due(5, b::writeFactors);
        b.dropLast(2);
        Checks.due("c|b|a", () -> Checks.report(b));
        Checks.due("1 c", () -> b.writeFactors() + " " + Checks.report(b));
        b.dropLast(1);
        Checks.due("0 ", () -> b.writeFactors() + " " + Checks.report(b));
    }

    // ---- reportByte

    @Says("Returns the byte, or NONE if the report has no such byte or nothing was written.")
    static void promise60_noneIfNothingWasWritten() {
        LyndonBench b = new LyndonBench();
        for (int index : new int[] {0, 1, -1, MIN_VALUE, MAX_VALUE}) {
            Checks.due(-1, () -> b.reportByte(index));
        }
    }

    @Says("Returns the byte, or NONE if the report has no such byte or nothing was written.")
    static void promise60_theFirstAndTheLastByte() {
        LyndonBench b = with("cabab");
        Checks.due(6, b::writeFactors);
        Checks.due("99 124 97 98 94 50", () -> b.reportByte(0) + " " + b.reportByte(1) + " " + b.reportByte(2) + " "
            + b.reportByte(3) + " " + b.reportByte(4) + " " + b.reportByte(5));
        for (int index : new int[] {-1, 6, 7, 240, MIN_VALUE, MAX_VALUE}) {
            Checks.due(-1, () -> b.reportByte(index));
        }
    }

    @Says("Returns the byte, or NONE if the report has no such byte or nothing was written.")
    static void promise60_anEmptyReportHasNoByte() {
        LyndonBench b = with("cabab");
        b.writeFactors();
        b.dropLast(5);
        b.writeFactors();
        Checks.due(-1, () -> b.reportByte(0));
    }

    @Says("Returns a byte of the report.")
    static void promise60_theReportStaysWhenTheTextChanges() {
        LyndonBench b = with("cab");
        b.writeFactors();
        b.reverse();
        b.setLetters(9);
        Checks.load(b, "letters 2;text b;");
        b.runScript();
        Checks.due("c|ab", () -> Checks.report(b));
        Checks.load(b, "letters 2;?");
        b.runScript();
        Checks.due("c|ab", () -> Checks.report(b));
    }
}
