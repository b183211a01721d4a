import java.util.NoSuchElementException;

/**
 * A workbench for Lyndon words. The numbered promises of the project's document say what each method does.
 *
 * <p>All rows are made by the constructor and used again, so that no call needs new room.
 */
public final class LyndonBench {
    public static final int NONE = -1;
    public static final int LYNDON = 0, EMPTY = 1, NOT_PRIMITIVE = 2, SMALLER_ROTATION = 3;

    private static final int FIRST_LETTER = 97;
    private static final int LAST_WORD_BYTE = 122;
    private static final int FEWEST_LETTERS = 2;
    private static final int MOST_LETTERS = 9;
    private static final int MOST_TEXT = 120;
    private static final int MOST_KEPT = 8;
    private static final int MOST_KEPT_LETTERS = 40;
    private static final int MOST_INPUT = 600;
    private static final int MOST_UNDO = 8;
    private static final int MOST_ORDER = 12;
    private static final int MOST_ROW = 4096;
    private static final int MOST_COUNTED = 18;
    private static final int SHARE_LENGTH = 6;
    /** Enough: a group of equal factors has at least half as many letters as the report needs bytes for it. */
    private static final int MOST_REPORT = 2 * MOST_TEXT;

    /** The Moebius function and Euler's totient, from 0 (which is not used) to MOST_COUNTED. */
    private static final int[] MOEBIUS = {0, 1, -1, -1, 0, -1, 1, -1, 0, 0, 1, -1, 0, -1, 1, 1, 0, -1, 0};
    private static final int[] TOTIENT = {0, 1, 1, 2, 2, 4, 2, 6, 4, 6, 4, 10, 4, 12, 6, 8, 8, 16, 6};

    private final State now = new State();
    private final History history = new History();
    private final State snapshot = new State();
    private boolean snapshotSaved = false;
    /** Its source is the input buffer. */
    private final Script script = new Script();
    private final Word report = new Word(MOST_REPORT);
    /** For words that only a question is about; the text with one letter more is the longest of them. */
    private final Word trial = new Word(MOST_TEXT + 1);

    public LyndonBench() {
        now.clear(3);
        now.text.addString("acabaabaccabab");
        trial.addString("abacab");
        now.keep(trial, 0, 4);
        now.keep(trial, 4, 6);
    }

    // ---- input

    public int append(int a, int b, int c, int d, int e) {
        Word input = script.source;
        if (input.size > MOST_INPUT - 20) {
            return NONE;
        }
        input.addFourBytes(a);
        input.addFourBytes(b);
        input.addFourBytes(c);
        input.addFourBytes(d);
        input.addFourBytes(e);
        return input.size;
    }

    public int truncateInput(int length) throws IllegalArgumentException {
        if (length < 0 || length > script.source.size) {
            throw new IllegalArgumentException("the input buffer is not so long");
        }
        script.source.shortenTo(length);
        return length;
    }

    // ---- changes

    public int runScript() {
        boolean right = script.run();
        script.source.clear();
        if (!right) {
            return NONE;
        }
        history.remember(now);
        now.copyFrom(script.state);
        return now.text.size;
    }

    public int setLetters(int letters) throws IllegalArgumentException, IllegalStateException {
        if (letters < FEWEST_LETTERS || letters > MOST_LETTERS) {
            throw new IllegalArgumentException("there are 2 to 9 letters");
        }
        if (!now.fitsLetters(letters)) {
            throw new IllegalStateException("a letter is still used");
        }
        history.remember(now);
        int previous = now.letterCount;
        now.letterCount = letters;
        return previous;
    }

    public int readText() throws IllegalStateException {
        Word input = script.source;
        int end = 0;
        for (int i = 0; i < input.size && now.isLetter(input.at(i)); i++) {
            end = i + 1;
        }
        if (end > MOST_TEXT) {
            throw new IllegalStateException("a text has at most 120 letters");
        }
        history.remember(now);
        now.text.clear();
        now.text.addPart(input, 0, end);
        input.clear();
        return now.text.size;
    }

    public int appendLetter(int letter) throws IllegalArgumentException, IllegalStateException {
        checkLetter(letter);
        if (now.text.size >= MOST_TEXT) {
            throw new IllegalStateException("a text has at most 120 letters");
        }
        history.remember(now);
        now.text.add(letter);
        return now.text.countFactors();
    }

    public int dropLast(int count) throws IllegalArgumentException {
        checkCount(count);
        history.remember(now);
        now.text.shortenTo(now.text.size - count);
        return now.text.countFactors();
    }

    public int cutPart(int from, int to) throws IllegalArgumentException {
        checkPart(from, to);
        history.remember(now);
        now.text.cutTo(from, to);
        return now.text.size;
    }

    public int rotate(int count) throws IllegalArgumentException {
        checkCount(count);
        history.remember(now);
        now.text.turn(count);
        return now.text.countFactors();
    }

    public int reverse() {
        history.remember(now);
        now.text.mirror(0, now.text.size);
        return now.text.countFactors();
    }

    public int rotateToLeast() throws IllegalStateException {
        if (now.text.size == 0) {
            throw new IllegalStateException("the text is empty");
        }
        history.remember(now);
        int count = now.text.leastTurn();
        now.text.turn(count);
        return count;
    }

    public int nextLyndon(int most) throws IllegalArgumentException, IllegalStateException {
        if (most < 1 || most > MOST_TEXT) {
            throw new IllegalArgumentException("the greatest length is 1 to 120");
        }
        if (!now.hasNext(most)) {
            throw new IllegalStateException("there is no next Lyndon word");
        }
        history.remember(now);
        now.text.stepLyndon(most, now.greatestLetter());
        return now.text.size;
    }

    public int keepFactor(int factor) throws IndexOutOfBoundsException, IllegalStateException {
        int begin = checkedBegin(factor);
        int end = now.text.lyndonEnd(begin);
        if (!now.canKeep(end - begin)) {
            throw new IllegalStateException("the factor can't be kept");
        }
        history.remember(now);
        now.keep(now.text, begin, end);
        return now.keptWords;
    }

    public int keepText() throws IllegalStateException {
        if (!now.canKeep(now.text.size)) {
            throw new IllegalStateException("the text can't be kept");
        }
        history.remember(now);
        now.keep(now.text, 0, now.text.size);
        return now.keptWords;
    }

    public int removeKept(int kept) throws IndexOutOfBoundsException {
        if (now.keptAt(kept) == null) {
            throw new IndexOutOfBoundsException("there is no such kept word");
        }
        history.remember(now);
        now.takeFromShelf(kept);
        return now.keptWords;
    }

    public int joinKept() throws IllegalStateException {
        if (!now.canJoin()) {
            throw new IllegalStateException("the kept words can't be joined");
        }
        history.remember(now);
        now.joinShelf();
        return now.text.size;
    }

    // ---- undo and the snapshot

    public int undo() {
        return history.bringBack(now) ? history.count : NONE;
    }

    public int undoCount() {
        return history.count;
    }

    public int saveSnapshot() {
        snapshot.copyFrom(now);
        snapshotSaved = true;
        return now.text.size;
    }

    public int restoreSnapshot() throws NoSuchElementException {
        if (!snapshotSaved) {
            throw new NoSuchElementException("no snapshot was saved");
        }
        now.copyFrom(snapshot);
        history.count = 0;
        return now.text.size;
    }

    // ---- the script error

    public int scriptErrorKind() {
        return script.errorKind;
    }

    public int scriptErrorOffset() {
        return script.errorOffset;
    }

    // ---- the text

    public int letters() {
        return now.letterCount;
    }

    public int length() {
        return now.text.size;
    }

    public int letterAt(int position) {
        return now.text.at(position);
    }

    public int compareParts(int from, int to, int otherFrom, int otherTo) throws IllegalArgumentException {
        checkPart(from, to);
        checkPart(otherFrom, otherTo);
        return now.text.order(from, to, now.text, otherFrom, otherTo);
    }

    // ---- factors

    public int factorCount() {
        return now.text.countFactors();
    }

    public int factorStart(int factor) throws IndexOutOfBoundsException {
        return checkedBegin(factor);
    }

    public int factorLength(int factor) throws IndexOutOfBoundsException {
        int begin = checkedBegin(factor);
        return now.text.lyndonEnd(begin) - begin;
    }

    public int factorPower(int factor) throws IndexOutOfBoundsException {
        int begin = checkedBegin(factor);
        return now.text.countFactorsLike(begin, now.text.lyndonEnd(begin));
    }

    public int factorOf(int position) {
        return now.text.factorWith(position);
    }

    public int longestFactor() {
        return now.text.firstLongestFactor();
    }

    public int factorsIfAppended(int letter) throws IllegalArgumentException {
        checkLetter(letter);
        trial.copyFrom(now.text);
        trial.add(letter);
        return trial.countFactors();
    }

    public int factorsIfRotated(int count) throws IllegalArgumentException {
        checkCount(count);
        trial.copyFrom(now.text);
        trial.turn(count);
        return trial.countFactors();
    }

    public int rankOf(int factor) throws IndexOutOfBoundsException {
        int begin = checkedBegin(factor);
        int end = now.text.lyndonEnd(begin);
        if (!fitsRow(now.letterCount, end - begin)) {
            return NONE;
        }
        return countSmaller(begin, end);
    }

    // ---- rotations, periods and borders

    public boolean isLyndon() {
        return now.text.isOneFactor();
    }

    public int whyNotLyndon() {
        if (now.text.size == 0) {
            return EMPTY;
        }
        if (now.text.countTurns() < now.text.size) {
            return NOT_PRIMITIVE;
        }
        return now.text.leastTurn() == 0 ? LYNDON : SMALLER_ROTATION;
    }

    public boolean isNecklace() {
        return now.text.size > 0 && now.text.leastTurn() == 0;
    }

    public boolean isPrenecklace() {
        return now.text.beginsNecklace();
    }

    public int keepingLetter() {
        if (!now.text.beginsNecklace()) {
            return NONE;
        }
        return now.text.at(now.text.size - now.text.lyndonEnd(0));
    }

    public int leastRotation() {
        return now.text.leastTurn();
    }

    public int rotationCount() {
        return now.text.countTurns();
    }

    public int smallestPeriod() {
        return now.text.leastPeriod();
    }

    public int longestBorder() {
        return now.text.size - now.text.leastPeriod();
    }

    public int leastSuffix() {
        return now.text.extremeEnding(-1);
    }

    public int greatestSuffix() {
        return now.text.extremeEnding(1);
    }

    // ---- counts and rows

    public long lyndonWords(int length) throws IllegalArgumentException {
        checkCountedLength(length);
        return weighPowers(now.letterCount, length, MOEBIUS);
    }

    public long necklaces(int length) throws IllegalArgumentException {
        checkCountedLength(length);
        return weighPowers(now.letterCount, length, TOTIENT);
    }

    public int bruijnLetter(int order, int index) throws IllegalArgumentException, IndexOutOfBoundsException {
        if (order < 1 || order > MOST_ORDER || !fitsRow(now.letterCount, order)) {
            throw new IllegalArgumentException("there is no row of this order");
        }
        int letter = index < 0 ? NONE : findRowLetter(order, index);
        if (letter == NONE) {
            throw new IndexOutOfBoundsException("the row has no such letter");
        }
        return letter;
    }

    // ---- the shelf

    public int keptCount() {
        return now.keptWords;
    }

    public int keptLength(int kept) throws IndexOutOfBoundsException {
        Word word = now.keptAt(kept);
        if (word == null) {
            throw new IndexOutOfBoundsException("there is no such kept word");
        }
        return word.size;
    }

    public int keptLetter(int kept, int index) throws IndexOutOfBoundsException {
        Word word = now.keptAt(kept);
        if (word == null) {
            throw new IndexOutOfBoundsException("there is no such kept word");
        }
        return word.at(index);
    }

    public boolean isShelfFalling() {
        for (int i = 1; i < now.keptWords; i++) {
            Word word = now.keptAt(i);
            Word before = now.keptAt(i - 1);
            if (word != null && before != null && word.order(0, word.size, before, 0, before.size) > 0) {
                return false;
            }
        }
        return true;
    }

    public int greatestKept() {
        return now.greatestOfShelf(0);
    }

    // ---- means and checks

    public double meanFactor() {
        int factors = now.text.countFactors();
        return factors == 0 ? 0.0 : (double) now.text.size / (double) factors;
    }

    public float lyndonShare() {
        float words = (float) weighPowers(now.letterCount, SHARE_LENGTH, MOEBIUS);
        float all = (float) weighPowers(now.letterCount, SHARE_LENGTH, TOTIENT);
        return all > 0.0f ? words / all : 0.0f;
    }

    public int violations() {
        Word text = now.text;
        int found = 0;
        int before = 0;
        int start = 0;
        for (int i = 0; i < text.size && start < text.size; i++) {
            int end = text.lyndonEnd(start);
            if (!text.isLyndonPart(start, end)) {
                found++;
            }
            if (i > 0 && text.order(start, end, text, before, start) > 0) {
                found++;
            }
            before = start;
            start = end;
        }
        if (start != text.size) {
            found++;
        }
        if (text.size > 0 && before != text.extremeEnding(-1)) {
            found++;
        }
        return found;
    }

    // ---- the report

    public int writeFactors() {
        Word text = now.text;
        report.clear();
        int start = 0;
        for (int i = 0; i < text.size && start < text.size; i++) {
            int end = text.lyndonEnd(start);
            int power = text.countFactorsLike(start, end);
            if (start > 0) {
                report.add('|');
            }
            report.addPart(text, start, end);
            if (power > 1) {
                report.add('^');
                report.addNumber(power);
            }
            start = start + power * (end - start);
        }
        return report.size;
    }

    public int reportByte(int index) {
        return report.at(index);
    }

    // ---- behind the face: checks of arguments

    private void checkLetter(int letter) {
        if (!now.isLetter(letter)) {
            throw new IllegalArgumentException("this is not one of the letters");
        }
    }

    private void checkCount(int count) {
        if (count < 0 || count > now.text.size) {
            throw new IllegalArgumentException("the text has not so many letters");
        }
    }

    private void checkPart(int from, int to) {
        if (from < 0 || to < from || to > now.text.size) {
            throw new IllegalArgumentException("the text has no such part");
        }
    }

    private void checkCountedLength(int length) {
        if (length < 1 || length > MOST_COUNTED) {
            throw new IllegalArgumentException("words of 1 to 18 letters are counted");
        }
    }

    /** Answers where a factor begins. */
    private int checkedBegin(int factor) {
        int begin = now.text.beginOfFactor(factor);
        if (begin == NONE) {
            throw new IndexOutOfBoundsException("there is no such factor");
        }
        return begin;
    }

    // ---- behind the face: counts and rows

    /** Whether there are at most MOST_ROW words of a length. */
    private static boolean fitsRow(int letters, int length) {
        long words = 1;
        for (int i = 0; i < length && words <= MOST_ROW; i++) {
            words *= letters;
        }
        return words <= MOST_ROW;
    }

    /** The sum over all divisors d of the length of weight(d) * letters to the power of length / d, by the length. */
    private static long weighPowers(int letters, int length, int[] weights) {
        if (length < 1) {
            return 0;
        }
        long sum = 0;
        for (int divisor = 1; divisor <= length && divisor < weights.length; divisor++) {
            if (length % divisor == 0) {
                sum += weights[divisor] * power(letters, length / divisor);
            }
        }
        return sum / length;
    }

    private static long power(int base, int exponent) {
        long result = 1;
        for (int i = 0; i < exponent; i++) {
            result *= base;
        }
        return result;
    }

    /** Makes the trial word the smallest Lyndon word, from which stepLyndon leads to all others. */
    private void startListing() {
        trial.clear();
        trial.add(FIRST_LETTER);
    }

    /** Counts the Lyndon words that are smaller than a factor and as long; none but for lengths that fit a row. */
    private int countSmaller(int begin, int end) {
        int length = end - begin;
        int count = 0;
        startListing();
        for (int i = 0; i < length * MOST_ROW && trial.size > 0; i++) {
            if (trial.order(0, trial.size, now.text, begin, end) >= 0) {
                return count;
            }
            if (trial.size == length) {
                count++;
            }
            trial.stepLyndon(length, now.greatestLetter());
        }
        return count;
    }

    /** A letter of a Bruijn row that is not longer than MOST_ROW, or NONE behind its end. */
    private int findRowLetter(int order, int index) {
        int passed = 0;
        startListing();
        for (int i = 0; i < order * MOST_ROW && trial.size > 0; i++) {
            if (order % trial.size == 0) {
                if (index < passed + trial.size) {
                    return trial.at(index - passed);
                }
                passed += trial.size;
            }
            trial.stepLyndon(order, now.greatestLetter());
        }
        return NONE;
    }

    /** A row of bytes with a fixed room: a word of letters, the input buffer or the report. */
    private static final class Word {
        private final byte[] row;
        int size = 0;

        Word(int room) {
            row = new byte[Math.max(room, 0)];
        }

        /** The byte at an index, 0 to 255, or NONE if there is none. */
        int at(int index) {
            return index >= 0 && index < size && index < row.length ? row[index] & 255 : NONE;
        }

        private void put(int index, int value) {
            if (index >= 0 && index < size && index < row.length) {
                row[index] = (byte) value;
            }
        }

        void clear() {
            size = 0;
        }

        /** Adds a byte behind the others, if there is room. */
        void add(int value) {
            if (size >= 0 && size < row.length) {
                row[size] = (byte) value;
                size++;
            }
        }

        /** Adds the four bytes of a value, the most significant one first. */
        void addFourBytes(int value) {
            for (int shift = 24; shift >= 0; shift -= 8) {
                add(value >> shift);
            }
        }

        void addString(String string) {
            for (int i = 0; i < string.length(); i++) {
                add(string.charAt(i));
            }
        }

        void addPart(Word other, int from, int to) {
            for (int i = from; i < to; i++) {
                add(other.at(i));
            }
        }

        /** Adds a number of 0 to 999 in decimal digits. */
        void addNumber(int number) {
            if (number >= 100) {
                add('0' + number / 100 % 10);
            }
            if (number >= 10) {
                add('0' + number / 10 % 10);
            }
            add('0' + number % 10);
        }

        void copyFrom(Word other) {
            clear();
            addPart(other, 0, other.size);
        }

        void shortenTo(int newSize) {
            if (newSize >= 0 && newSize < size) {
                size = newSize;
            }
        }

        void cutTo(int from, int to) {
            for (int i = from; i < to; i++) {
                put(i - from, at(i));
            }
            shortenTo(to - from);
        }

        /** Reverses the order of the letters of a part. */
        void mirror(int from, int to) {
            for (int i = from, j = to - 1; i < j; i++, j--) {
                int letter = at(i);
                put(i, at(j));
                put(j, letter);
            }
        }

        /** Rotates by a count of at most the size: mirroring both parts and then the whole swaps the parts. */
        void turn(int count) {
            mirror(0, count);
            mirror(count, size);
            mirror(0, size);
        }

        /** Whether all letters are among the first ones of a number. */
        boolean fitsLetters(int letters) {
            for (int i = 0; i < size; i++) {
                if (at(i) >= FIRST_LETTER + letters) {
                    return false;
                }
            }
            return true;
        }

        boolean equalsString(int from, int to, String string) {
            if (to - from != string.length()) {
                return false;
            }
            for (int i = 0; i < string.length(); i++) {
                if (at(from + i) != string.charAt(i)) {
                    return false;
                }
            }
            return true;
        }

        /** Compares a part with a part of another word as in a dictionary: -1, 0 or 1. */
        int order(int from, int to, Word other, int otherFrom, int otherTo) {
            int length = to - from;
            int otherLength = otherTo - otherFrom;
            for (int i = 0; i < length && i < otherLength; i++) {
                int letter = at(from + i);
                int otherLetter = other.at(otherFrom + i);
                if (letter != otherLetter) {
                    return letter < otherLetter ? -1 : 1;
                }
            }
            if (length == otherLength) {
                return 0;
            }
            return length < otherLength ? -1 : 1;
        }

        /**
         * The position behind the longest Lyndon word that begins at a start; the first factor of what begins there
         * is this word. A letter smaller than the one a period before it ends the search, a greater one makes all
         * letters so far one Lyndon word.
         */
        int lyndonEnd(int start) {
            int period = 1;
            for (int i = start + 1; i < size && at(i) >= at(i - period); i++) {
                if (at(i) > at(i - period)) {
                    period = i - start + 1;
                }
            }
            return start + period;
        }

        /**
         * The position behind the factor that begins at a start, if the factor before it began at an earlier one. A
         * factor that stands there once more is the next one, for that may not be greater; asking this first keeps
         * the way through many equal factors short.
         */
        int factorEnd(int before, int start) {
            int again = start + start - before;
            if (start > before && again <= size && order(before, start, this, start, again) == 0) {
                return again;
            }
            return lyndonEnd(start);
        }

        int countFactors() {
            int count = 0;
            int before = 0;
            int start = 0;
            for (int i = 0; i < size && start < size; i++) {
                int end = factorEnd(before, start);
                count++;
                before = start;
                start = end;
            }
            return count;
        }

        boolean isOneFactor() {
            return size > 0 && lyndonEnd(0) == size;
        }

        /** The position at which a factor begins, or NONE if there is no such factor. */
        int beginOfFactor(int factor) {
            int before = 0;
            int start = 0;
            for (int i = 0; i < factor && start < size; i++) {
                int end = factorEnd(before, start);
                before = start;
                start = end;
            }
            return factor >= 0 && start < size ? start : NONE;
        }

        /** The number of the factor that contains a position, or NONE if there is no such position. */
        int factorWith(int position) {
            if (position < 0 || position >= size) {
                return NONE;
            }
            int factor = NONE;
            int before = 0;
            int start = 0;
            for (int i = 0; i < size && start <= position; i++) {
                int end = factorEnd(before, start);
                factor = i;
                before = start;
                start = end;
            }
            return factor;
        }

        int firstLongestFactor() {
            int longest = NONE;
            int most = 0;
            int before = 0;
            int start = 0;
            for (int i = 0; i < size && start < size; i++) {
                int end = factorEnd(before, start);
                if (end - start > most) {
                    most = end - start;
                    longest = i;
                }
                before = start;
                start = end;
            }
            return longest;
        }

        /** How many factors equal a part. */
        int countFactorsLike(int from, int to) {
            int count = 0;
            int before = 0;
            int start = 0;
            for (int i = 0; i < size && start < size; i++) {
                int end = factorEnd(before, start);
                if (order(start, end, this, from, to) == 0) {
                    count++;
                }
                before = start;
                start = end;
            }
            return count;
        }

        /** Whether a part is a Lyndon word: not empty, and smaller than all shorter words with which it ends. */
        boolean isLyndonPart(int from, int to) {
            for (int i = from + 1; i < to; i++) {
                if (order(from, to, this, i, to) >= 0) {
                    return false;
                }
            }
            return from < to;
        }

        /** Whether this begins a necklace: it then repeats its longest Lyndon beginning to the end. */
        boolean beginsNecklace() {
            return size > 0 && hasPeriod(lyndonEnd(0));
        }

        private boolean hasPeriod(int period) {
            for (int i = period; i < size; i++) {
                if (at(i) != at(i - period)) {
                    return false;
                }
            }
            return true;
        }

        /** The smallest period, 0 if this is empty. */
        int leastPeriod() {
            for (int period = 1; period < size; period++) {
                if (hasPeriod(period)) {
                    return period;
                }
            }
            return size;
        }

        /** The number of different rotations: the smallest period if it divides the size, otherwise the size. */
        int countTurns() {
            int period = leastPeriod();
            return period > 0 && size % period == 0 ? period : size;
        }

        /**
         * The smallest count by which a rotation gives the smallest word, 0 if this is empty. All counts below the
         * rival but the least one are out; the first letters in which the rotations by both differ rule out one of
         * them, and with it as many counts behind it as letters were the same.
         */
        int leastTurn() {
            int least = 0;
            int rival = 1;
            int same = 0;
            for (int i = 0; i < 4 * size && rival < size && same < size; i++) {
                int letter = atAround(least + same);
                int rivalLetter = atAround(rival + same);
                if (letter == rivalLetter) {
                    same++;
                } else {
                    if (letter > rivalLetter) {
                        least = Math.max(rival, least + same + 1);
                        rival = least + 1;
                    } else {
                        rival = rival + same + 1;
                    }
                    same = 0;
                }
            }
            return least;
        }

        private int atAround(int index) {
            return at(index < size ? index : index - size);
        }

        /** Where the smallest (sign -1) or greatest (sign 1) word begins with which this ends; NONE if it is empty. */
        int extremeEnding(int sign) {
            int best = size - 1;
            for (int i = size - 2; i >= 0; i--) {
                if (order(i, size, this, best, size) == sign) {
                    best = i;
                }
            }
            return size == 0 ? NONE : best;
        }

        /** Makes this Lyndon word the next one of at most a number of letters; empties it if there is none. */
        void stepLyndon(int most, int greatest) {
            int period = size;
            if (period == 0) {
                return;
            }
            for (int i = period; i < most; i++) {
                add(at(i - period));
            }
            int last = size - 1;
            for (int i = 0; i < most && at(last) == greatest; i++) {
                last--;
            }
            shortenTo(last + 1);
            put(last, at(last) + 1);
        }
    }

    /** What undo restores: the number of letters, the text and the shelf. */
    private static final class State {
        int letterCount = FEWEST_LETTERS;
        final Word text = new Word(MOST_TEXT);
        private final Word[] shelf = new Word[MOST_KEPT];
        int keptWords = 0;

        State() {
            for (int i = 0; i < shelf.length; i++) {
                shelf[i] = new Word(MOST_KEPT_LETTERS);
            }
        }

        /** Empties the text and the shelf and sets the number of letters. */
        void clear(int letters) {
            letterCount = letters;
            text.clear();
            keptWords = 0;
        }

        void copyFrom(State other) {
            letterCount = other.letterCount;
            text.copyFrom(other.text);
            keptWords = 0;
            for (int i = 0; i < other.keptWords; i++) {
                Word word = other.keptAt(i);
                if (word != null) {
                    keep(word, 0, word.size);
                }
            }
        }

        boolean isLetter(int value) {
            return value >= FIRST_LETTER && value < FIRST_LETTER + letterCount;
        }

        int greatestLetter() {
            return FIRST_LETTER + letterCount - 1;
        }

        boolean fitsLetters(int letters) {
            for (int i = 0; i < keptWords; i++) {
                Word word = keptAt(i);
                if (word != null && !word.fitsLetters(letters)) {
                    return false;
                }
            }
            return text.fitsLetters(letters);
        }

        /** A kept word, or null if there is none of this number. */
        Word keptAt(int kept) {
            return kept >= 0 && kept < keptWords && kept < shelf.length ? shelf[kept] : null;
        }

        boolean canKeep(int length) {
            return length >= 1 && length <= MOST_KEPT_LETTERS && keptWords < MOST_KEPT;
        }

        /** Keeps a part of a word, if there is room. */
        void keep(Word source, int from, int to) {
            if (keptWords < 0 || keptWords >= shelf.length) {
                return;
            }
            Word word = shelf[keptWords];
            if (word != null) {
                word.clear();
                word.addPart(source, from, to);
                keptWords++;
            }
        }

        void takeFromShelf(int kept) {
            for (int i = kept; i < keptWords - 1; i++) {
                Word word = keptAt(i);
                Word behind = keptAt(i + 1);
                if (word != null && behind != null) {
                    word.copyFrom(behind);
                }
            }
            if (kept >= 0 && kept < keptWords) {
                keptWords--;
            }
        }

        /** The greatest kept word whose bit is not set in a mask, of several the first one; NONE if there is none. */
        int greatestOfShelf(int leftOut) {
            int greatest = NONE;
            Word best = null;
            for (int i = 0; i < keptWords; i++) {
                Word word = (leftOut >> i & 1) == 0 ? keptAt(i) : null;
                if (word != null && (best == null || word.order(0, word.size, best, 0, best.size) > 0)) {
                    greatest = i;
                    best = word;
                }
            }
            return greatest;
        }

        boolean canJoin() {
            int length = 0;
            for (int i = 0; i < keptWords; i++) {
                Word word = keptAt(i);
                length += word == null ? 0 : word.size;
            }
            return keptWords > 0 && length <= MOST_TEXT;
        }

        void joinShelf() {
            text.clear();
            int joined = 0;
            for (int i = 0; i < keptWords; i++) {
                int greatest = greatestOfShelf(joined);
                Word word = keptAt(greatest);
                if (word != null) {
                    text.addPart(word, 0, word.size);
                    joined |= 1 << greatest;
                }
            }
        }

        /** Whether the text is a Lyndon word of at most a number of letters and not the last one, a single letter. */
        boolean hasNext(int most) {
            return text.size <= most && text.isOneFactor() && text.at(0) != greatestLetter();
        }
    }

    /** The latest states before a change, the oldest one first. */
    private static final class History {
        private final State[] states = new State[MOST_UNDO];
        int count = 0;

        History() {
            for (int i = 0; i < states.length; i++) {
                states[i] = new State();
            }
        }

        void remember(State state) {
            if (count >= states.length) {
                forgetOldest();
            }
            if (count >= 0 && count < states.length && states[count] != null) {
                states[count].copyFrom(state);
                count++;
            }
        }

        /** Puts the oldest state behind the others, where it is used again. */
        private void forgetOldest() {
            if (states.length == 0) {
                return;
            }
            State oldest = states[0];
            for (int i = 1; i < states.length; i++) {
                states[i - 1] = states[i];
            }
            states[states.length - 1] = oldest;
            count = states.length - 1;
        }

        /** Makes a state the latest remembered one, which is then forgotten; answers whether there was one. */
        boolean bringBack(State state) {
            if (count < 1 || count > states.length || states[count - 1] == null) {
                return false;
            }
            count--;
            state.copyFrom(states[count]);
            return true;
        }
    }

    /** The first words of the commands. */
    private enum Command {
        TEXT("text"), APPEND("append"), DROP("drop"), PART("part"), ROTATE("rotate"), REVERSE("reverse"),
        LEAST("least"), NEXT("next"), KEEP("keep"), REMOVE("remove"), JOIN("join"), REPEAT("repeat");

        private static final Command[] ALL = values();

        private final String word;

        Command(String word) {
            this.word = word;
        }

        /** The command with a part of a text as its first word, or null if there is none. */
        static Command find(Word source, int from, int to) {
            for (Command command : ALL) {
                if (command != null && source.equalsString(from, to, command.word)) {
                    return command;
                }
            }
            return null;
        }
    }

    /**
     * Executes a text as a script on a state of its own. A command is executed as soon as its semicolon is read, so
     * that the first error found is the one to report; what answers whether it succeeded has noted the error if not.
     */
    private static final class Script {
        private static final int END = 0, WORD = 1, NUMBER = 2, OPEN = 3, CLOSE = 4, SEMICOLON = 5;
        private static final int BLANK = 6, WRONG = 7;
        private static final int BAD_TOKEN = 1, BAD_VALUE = 2, BAD_STATE = 3, BAD_NESTING = 4, TOO_MANY = 5;
        private static final int MOST_COMMANDS = 200;
        private static final int MOST_TIMES = 20;
        private static final int MOST_NESTING = 2;
        private static final int MOST_DIGITS = 3;
        private static final int GREATEST_NUMBER = 999;
        /** Far above the commands, closing parentheses and empty repeats that any script can pass. */
        private static final int MOST_STEPS = 1000000;

        final Word source = new Word(MOST_INPUT);
        final State state = new State();
        int errorKind = 0;
        int errorOffset = NONE;

        private int token = END;
        private int tokenStart = 0;
        private int position = 0;
        private int number = 0;
        private int executed = 0;
        /** The repeats that are open, and of each where its first command begins and how many rounds are left. */
        private int nesting = 0;
        private final int[] bodies = new int[MOST_NESTING];
        private final int[] rounds = new int[MOST_NESTING];

        boolean run() {
            if (!runHead()) {
                return false;
            }
            for (int i = 0; i < MOST_STEPS; i++) {
                readToken();
                if (token == END && nesting == 0) {
                    return true;
                }
                boolean right = token == CLOSE && nesting > 0 ? endRound() : runCommand();
                if (!right) {
                    return false;
                }
            }
            return fail(BAD_TOKEN);
        }

        private boolean runHead() {
            errorKind = 0;
            errorOffset = NONE;
            position = 0;
            executed = 0;
            nesting = 0;
            readToken();
            if (token != WORD || !source.equalsString(tokenStart, position, "letters")) {
                return fail(BAD_TOKEN);
            }
            if (!expectNumber(FEWEST_LETTERS, MOST_LETTERS) || !expect(SEMICOLON)) {
                return false;
            }
            state.clear(number);
            return true;
        }

        private boolean runCommand() {
            Command command = token == WORD ? Command.find(source, tokenStart, position) : null;
            if (command == null) {
                return fail(BAD_TOKEN);
            }
            if (command == Command.REPEAT) {
                return openRepeat();
            }
            if (executed >= MOST_COMMANDS) {
                return fail(TOO_MANY);
            }
            executed++;
            switch (command) {
                case TEXT:
                    return runText(false);
                case APPEND:
                    return runText(true);
                case DROP:
                    return runDrop();
                case PART:
                    return runPart();
                case ROTATE:
                    return runRotate();
                case REVERSE:
                    return runReverse();
                case LEAST:
                    return runLeast();
                case NEXT:
                    return runNext();
                case KEEP:
                    return runKeep();
                case REMOVE:
                    return runRemove();
                default:
                    return runJoin();
            }
        }

        private boolean openRepeat() {
            if (nesting < 0 || nesting >= bodies.length || nesting >= rounds.length) {
                return fail(BAD_NESTING);
            }
            if (!expectNumber(1, MOST_TIMES) || !expect(OPEN)) {
                return false;
            }
            bodies[nesting] = position;
            rounds[nesting] = number;
            nesting++;
            return true;
        }

        /** Goes back to the first command of the innermost repeat, or ends the repeat after its last round. */
        private boolean endRound() {
            int inner = nesting - 1;
            if (inner < 0 || inner >= bodies.length || inner >= rounds.length) {
                return fail(BAD_TOKEN);
            }
            rounds[inner]--;
            if (rounds[inner] > 0) {
                position = bodies[inner];
                return true;
            }
            nesting = inner;
            return expect(SEMICOLON);
        }

        private boolean runText(boolean appended) {
            if (!expect(WORD)) {
                return false;
            }
            int from = tokenStart;
            int to = position;
            for (int i = from; i < to; i++) {
                if (!state.isLetter(source.at(i))) {
                    return fail(BAD_VALUE);
                }
            }
            int before = appended ? state.text.size : 0;
            if (!expectEnd(before + to - from <= MOST_TEXT)) {
                return false;
            }
            state.text.shortenTo(before);
            state.text.addPart(source, from, to);
            return true;
        }

        private boolean runDrop() {
            if (!expectNumber(0, state.text.size) || !expect(SEMICOLON)) {
                return false;
            }
            state.text.shortenTo(state.text.size - number);
            return true;
        }

        /** The first number is never out of range by itself: the method asks of it only that it is not negative. */
        private boolean runPart() {
            if (!expectNumber(0, GREATEST_NUMBER)) {
                return false;
            }
            int from = number;
            if (!expectNumber(from, state.text.size) || !expect(SEMICOLON)) {
                return false;
            }
            state.text.cutTo(from, number);
            return true;
        }

        private boolean runRotate() {
            if (!expectNumber(0, state.text.size) || !expect(SEMICOLON)) {
                return false;
            }
            state.text.turn(number);
            return true;
        }

        private boolean runReverse() {
            if (!expect(SEMICOLON)) {
                return false;
            }
            state.text.mirror(0, state.text.size);
            return true;
        }

        private boolean runLeast() {
            if (!expectEnd(state.text.size > 0)) {
                return false;
            }
            state.text.turn(state.text.leastTurn());
            return true;
        }

        private boolean runNext() {
            if (!expectNumber(1, MOST_TEXT) || !expectEnd(state.hasNext(number))) {
                return false;
            }
            state.text.stepLyndon(number, state.greatestLetter());
            return true;
        }

        /** With a number behind it a factor is kept, otherwise the text. */
        private boolean runKeep() {
            int begin = 0;
            int end = state.text.size;
            readToken();
            if (token == NUMBER) {
                begin = state.text.beginOfFactor(number);
                if (begin == NONE) {
                    return fail(BAD_VALUE);
                }
                end = state.text.lyndonEnd(begin);
                readToken();
            }
            if (token != SEMICOLON) {
                return fail(BAD_TOKEN);
            }
            if (!state.canKeep(end - begin)) {
                return fail(BAD_STATE);
            }
            state.keep(state.text, begin, end);
            return true;
        }

        private boolean runRemove() {
            if (!expectNumber(0, state.keptWords - 1) || !expect(SEMICOLON)) {
                return false;
            }
            state.takeFromShelf(number);
            return true;
        }

        private boolean runJoin() {
            if (!expectEnd(state.canJoin())) {
                return false;
            }
            state.joinShelf();
            return true;
        }

        private boolean expect(int wanted) {
            readToken();
            return token == wanted || fail(BAD_TOKEN);
        }

        private boolean expectNumber(int least, int most) {
            readToken();
            if (token != NUMBER) {
                return fail(BAD_TOKEN);
            }
            return number >= least && number <= most || fail(BAD_VALUE);
        }

        /** Expects the semicolon of a command that is possible in this state or not. */
        private boolean expectEnd(boolean possible) {
            readToken();
            if (token != SEMICOLON) {
                return fail(BAD_TOKEN);
            }
            return possible || fail(BAD_STATE);
        }

        /** Notes an error at the present token. */
        private boolean fail(int kind) {
            errorKind = kind;
            errorOffset = tokenStart;
            return false;
        }

        private void readToken() {
            while (position < source.size && kindOf(source.at(position)) == BLANK) {
                position++;
            }
            tokenStart = position;
            token = kindOf(source.at(position));
            if (token != END) {
                position++;
            }
            if (token == WORD || token == NUMBER) {
                while (position < source.size && kindOf(source.at(position)) == token) {
                    position++;
                }
            }
            if (token == NUMBER) {
                readNumber();
            }
        }

        private void readNumber() {
            if (position - tokenStart > MOST_DIGITS) {
                token = WRONG;
                return;
            }
            number = 0;
            for (int i = tokenStart; i < position; i++) {
                number = number * 10 + source.at(i) - '0';
            }
        }

        /** The kind of a token that begins with a byte; BLANK if none does. */
        private static int kindOf(int value) {
            if (value >= FIRST_LETTER && value <= LAST_WORD_BYTE) {
                return WORD;
            }
            if (value >= '0' && value <= '9') {
                return NUMBER;
            }
            switch (value) {
                case NONE:
                    return END;
                case ' ':
                case '\n':
                    return BLANK;
                case '(':
                    return OPEN;
                case ')':
                    return CLOSE;
                case ';':
                    return SEMICOLON;
                default:
                    return WRONG;
            }
        }
    }
}
