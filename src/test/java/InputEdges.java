import static java.lang.Integer.MAX_VALUE;
import static java.lang.Integer.MIN_VALUE;

/** Boundary cases of the promises 1 to 3: a new object and its input buffer. */
final class InputEdges {
    private InputEdges() {
    }

    @Says("Creates a bench as by the script \"letters 3; text abacabaabacc; keep 0; keep 1; append ab; rotate 2;\".")
    static void promise01_isAsByItsScript() {
        LyndonBench b = Checks.after("letters 3; text abacabaabacc; keep 0; keep 1; append ab; rotate 2;");
        b.undo();
        Checks.due(Checks.everything(b), () -> Checks.everything(new LyndonBench()));
        Checks.due("3 acabaabaccabab [abac ab] 0", () -> Checks.state(new LyndonBench()));
    }

    @Says("There are 2 to 9 letters, a, b and so on; 3 at first.")
    static void promise01_has3LettersAtFirst() {
        Checks.due(3, () -> new LyndonBench().letters());
        Checks.due(4, () -> new LyndonBench().appendLetter('a'));
        Checks.due(Checks.ILLEGAL, () -> new LyndonBench().appendLetter('d'));
    }

    @Says("The input buffer and the report are empty, no snapshot is saved, and nothing can be undone.")
    static void promise01_inputBufferIsEmpty() {
        Checks.due(0, () -> new LyndonBench().truncateInput(0));
        Checks.due(Checks.ILLEGAL, () -> new LyndonBench().truncateInput(1));
        Checks.due(0, () -> new LyndonBench().readText());
        Checks.due(20, () -> new LyndonBench().append(0, 0, 0, 0, 0));
    }

    @Says("The input buffer and the report are empty, no snapshot is saved, and nothing can be undone.")
    static void promise01_reportIsEmpty() {
        Checks.due(-1, () -> new LyndonBench().reportByte(0));
    }

    @Says("The input buffer and the report are empty, no snapshot is saved, and nothing can be undone.")
    static void promise01_noSnapshotIsSaved() {
        Checks.refused(Checks.NO_ELEMENT, LyndonBench::new, LyndonBench::restoreSnapshot);
    }

    @Says("The input buffer and the report are empty, no snapshot is saved, and nothing can be undone.")
    static void promise01_nothingCanBeUndone() {
        LyndonBench b = new LyndonBench();
        Checks.due(0, b::undoCount);
        Checks.due(-1, b::undo);
        Checks.due("3 acabaabaccabab [abac ab] 0", () -> Checks.state(b));
    }

    @Says("Creates a bench as by the script")
    static void promise01_isNotTouchedByOtherObjects() {
        LyndonBench used = new LyndonBench();
        used.dropLast(14);
        used.removeKept(0);
        used.append(0x61626364, 0, 0, 0, 0);
        used.saveSnapshot();
        LyndonBench b = new LyndonBench();
        used.setLetters(9);
        used.appendLetter('i');
        used.writeFactors();
        Checks.due(Checks.everything(new LyndonBench()), () -> Checks.everything(b));
    }

    @Says("An object is used for at most 512 calls after it has been made")
    static void promise01_answersUpToThe512thCall() {
        LyndonBench b = new LyndonBench();
        for (int call = 1; call <= 512; call += 4) {
            Checks.due("call " + call, 5, b::reverse);
            Checks.due("call " + (call + 1), 3, b::reverse);
            Checks.due("call " + (call + 2), Math.min(call / 2 + 1, 7), b::undo);
            Checks.due("call " + (call + 3), 3, b::reverse);
        }
    }

    @Says("Appends 20 bytes to the input buffer: the four bytes of each parameter, the most significant byte first.")
    static void promise02_mostSignificantByteFirst() {
        LyndonBench b = new LyndonBench();
        b.setLetters(9);
        b.append(0x61626364, 0x65666768, 0x69616261, 0x63616461, 0x65616661);
        Checks.due(20, b::readText);
        Checks.due("abcdefghiabacadaeafa", () -> Checks.text(b));
    }

    @Says("e: bytes 16 to 19")
    static void promise02_eachParameterHasItsFourBytes() {
        for (int place = 0; place < 20; place++) {
            int at = place;
            int[] row = {0x61616161, 0x61616161, 0x61616161, 0x61616161, 0x61616161};
            row[at / 4] = row[at / 4] & ~(255 << 24 - at % 4 * 8) | 'b' << 24 - at % 4 * 8;
            LyndonBench b = Checks.with(2, "");
            b.append(row[0], row[1], row[2], row[3], row[4]);
            b.readText();
            Checks.due(Checks.times(at, "a") + "b" + Checks.times(19 - at, "a"), () -> Checks.text(b));
        }
    }

    @Says("Appends 20 bytes to the input buffer: the four bytes of each parameter, the most significant byte first.")
    static void promise02_bytesAbove127() {
        for (int value = 0; value < 256; value++) {
            LyndonBench b = new LyndonBench();
            b.append(0x61616161, 0x61616100 | value, -1, -1, -1);
            boolean letter = value >= 'a' && value <= 'c';
            Checks.due("the byte " + value, letter ? 8 : 7, b::readText);
        }
    }

    @Says("Returns the new length of the buffer, or NONE (and nothing is appended) if it would be greater than 600.")
    static void promise02_growsBy20UpTo600() {
        LyndonBench b = new LyndonBench();
        for (int length = 20; length <= 600; length += 20) {
            int want = length;
            Checks.due(want, () -> b.append(0, 0, 0, 0, 0));
        }
        Checks.due(-1, () -> b.append(0, 0, 0, 0, 0));
        Checks.due(600, () -> b.truncateInput(600));
    }

    @Says("Returns the new length of the buffer, or NONE (and nothing is appended) if it would be greater than 600.")
    static void promise02_580BytesAreNotTooMany() {
        LyndonBench b = new LyndonBench();
        Checks.load(b, Checks.times(580, "x"));
        Checks.due(600, () -> b.append(0, 0, 0, 0, 0));
    }

    @Says("Returns the new length of the buffer, or NONE (and nothing is appended) if it would be greater than 600.")
    static void promise02_581BytesAreTooMany() {
        for (int length : new int[] {581, 582, 590, 599, 600}) {
            LyndonBench b = new LyndonBench();
            Checks.load(b, Checks.times(length, "x"));
            Checks.due(-1, () -> b.append(0x61616161, 0, 0, 0, 0));
            Checks.due(length, () -> Checks.inputLength(b));
        }
    }

    @Says("Returns the new length of the buffer, or NONE (and nothing is appended) if it would be greater than 600.")
    static void promise02_nothingIsAppendedThen() {
        LyndonBench b = new LyndonBench();
        Checks.load(b, Checks.times(100, "a") + "b" + Checks.times(499, "."));
        b.append(0x61616161, 0x61616161, 0x61616161, 0x61616161, 0x61616161);
        Checks.due(101, b::readText);
        Checks.due(Checks.times(100, "a") + "b", () -> Checks.text(b));
        Checks.due(20, () -> b.append(0, 0, 0, 0, 0));
    }

    @Says("The methods from `runScript` to `joinKept` are changes.")
    static void promise02_isNoChange() {
        LyndonBench b = new LyndonBench();
        b.append(0x61616161, 0, 0, 0, 0);
        b.truncateInput(3);
        Checks.due("3 acabaabaccabab [abac ab] 0", () -> Checks.state(b));
    }

    @Says("Throws `IllegalArgumentException` if `length` is negative or greater than the present length")
    static void promise03_negative() {
        Checks.refused(Checks.ILLEGAL, InputEdges::with23Bytes, b -> b.truncateInput(-1));
        Checks.refused(Checks.ILLEGAL, InputEdges::with23Bytes, b -> b.truncateInput(MIN_VALUE));
        Checks.refused(Checks.ILLEGAL, LyndonBench::new, b -> b.truncateInput(-1));
    }

    @Says("Throws `IllegalArgumentException` if `length` is negative or greater than the present length")
    static void promise03_greaterThanThePresentLength() {
        Checks.refused(Checks.ILLEGAL, InputEdges::with23Bytes, b -> b.truncateInput(24));
        Checks.refused(Checks.ILLEGAL, InputEdges::with23Bytes, b -> b.truncateInput(MAX_VALUE));
        Checks.refused(Checks.ILLEGAL, LyndonBench::new, b -> b.truncateInput(1));
    }

    @Says("Throws `IllegalArgumentException` if `length` is negative or greater than the present length")
    static void promise03_greaterThanAShortenedLength() {
        LyndonBench b = with23Bytes();
        b.truncateInput(5);
        Checks.all(Checks.ILLEGAL, () -> b.truncateInput(6), () -> b.truncateInput(23));
        Checks.due(5, () -> b.truncateInput(5));
    }

    @Says("Shortens the input buffer.")
    static void promise03_thePresentLengthItself() {
        LyndonBench b = with23Bytes();
        Checks.due(23, () -> b.truncateInput(23));
        Checks.due(23, b::readText);
        Checks.due("abcabcabcabcabcabcabcab", () -> Checks.text(b));
    }

    @Says("Returns the new length.")
    static void promise03_everyLengthDownTo0() {
        LyndonBench b = new LyndonBench();
        Checks.load(b, Checks.times(450, "a"));
        for (int length = 449; length >= 0; length--) {
            int want = length;
            Checks.due(want, () -> b.truncateInput(want));
        }
        Checks.due(0, b::readText);
    }

    @Says("Shortens the input buffer.")
    static void promise03_whatIsCutOffIsGone() {
        LyndonBench b = with23Bytes();
        b.truncateInput(2);
        b.append(0x62620000, 0, 0, 0, 0);
        Checks.due(4, b::readText);
        Checks.due("abbb", () -> Checks.text(b));
    }

    private static LyndonBench with23Bytes() {
        LyndonBench b = new LyndonBench();
        Checks.load(b, "abcabcabcabcabcabcabcab");
        return b;
    }
}
