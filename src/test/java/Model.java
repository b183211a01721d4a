import java.util.ArrayList;
import java.util.Collections;
import java.util.List;
import java.util.NoSuchElementException;
import java.util.TreeSet;

/**
 * A second LyndonBench, slow and close to the document's definitions, to compare the first one with. Its methods bear
 * the names of the face.
 */
public final class Model {
    static final int NONE = -1;

    /** What undo restores; never changed once it is made. */
    private record State(int letters, String text, List<String> shelf) {
        State withText(String newText) {
            return new State(letters, newText, shelf);
        }

        State withShelf(List<String> newShelf) {
            return new State(letters, text, List.copyOf(newShelf));
        }
    }

    /** An error of a script. */
    private static final class ScriptError extends Exception {
        private static final long serialVersionUID = 1;
        final int kind;
        final int offset;

        ScriptError(int kind, int offset) {
            this.kind = kind;
            this.offset = offset;
        }
    }

    private record Token(char kind, String bytes, int offset) {
    }

    private State now = new State(3, "acabaabaccabab", List.of("abac", "ab"));
    private final List<State> past = new ArrayList<>();
    private State snapshot = null;
    private String input = "";
    private String report = "";
    private int errorKind = 0;
    private int errorOffset = NONE;

    private List<Token> tokens;
    private int next;
    private int executed;

    private void change(State to) {
        past.add(now);
        if (past.size() > 8) {
            past.remove(0);
        }
        now = to;
    }

    // ---- words, by their definitions

    static String rotated(String word, int count) {
        return word.substring(count) + word.substring(0, count);
    }

    static boolean primitive(String word) {
        for (int i = 1; i < word.length(); i++) {
            if (rotated(word, i).equals(word)) {
                return false;
            }
        }
        return !word.isEmpty();
    }

    static boolean necklace(String word) {
        for (int i = 1; i < word.length(); i++) {
            if (word.compareTo(rotated(word, i)) > 0) {
                return false;
            }
        }
        return !word.isEmpty();
    }

    static boolean lyndon(String word) {
        return necklace(word) && primitive(word);
    }

    /** Whether a necklace begins with a word: one that repeats a beginning of it would have to be among them. */
    static boolean prenecklace(String word) {
        for (int period = 1; period <= word.length(); period++) {
            String root = word.substring(0, period);
            StringBuilder repeated = new StringBuilder();
            while (repeated.length() < word.length()) {
                repeated.append(root);
            }
            if (repeated.toString().startsWith(word) && necklace(repeated.toString())) {
                return true;
            }
        }
        return false;
    }

    /** The factors: the longest Lyndon beginning again and again. */
    static List<String> factors(String word) {
        List<String> factors = new ArrayList<>();
        int from = 0;
        while (from < word.length()) {
            int to = word.length();
            while (!lyndon(word.substring(from, to))) {
                to--;
            }
            factors.add(word.substring(from, to));
            from = to;
        }
        return factors;
    }

    /** All words of a length of some letters, in their order. */
    static List<String> words(int letters, int length) {
        List<String> words = new ArrayList<>();
        words.add("");
        for (int i = 0; i < length; i++) {
            List<String> longer = new ArrayList<>();
            for (String word : words) {
                for (int letter = 0; letter < letters; letter++) {
                    longer.add(word + (char) ('a' + letter));
                }
            }
            words = longer;
        }
        return words;
    }

    static List<String> lyndonWordsOf(int letters, int length) {
        List<String> words = new ArrayList<>();
        for (String word : words(letters, length)) {
            if (lyndon(word)) {
                words.add(word);
            }
        }
        return words;
    }

    static boolean countable(int letters, int length) {
        return Math.pow(letters, length) <= 4096;
    }

    /** The smallest Lyndon word of at most so many letters that is greater than a word, or null. */
    static String nextLyndonWord(int letters, String word, int most) {
        char greatest = (char) ('a' + letters - 1);
        for (int same = most - 1; same >= 0; same--) {
            StringBuilder start = new StringBuilder(word);
            while (start.length() <= same) {
                start.append(start.charAt(start.length() - word.length()));
            }
            if (start.charAt(same) < greatest) {
                return start.substring(0, same) + (char) (start.charAt(same) + 1);
            }
        }
        return null;
    }

    private boolean isLetter(int value) {
        return value >= 'a' && value < 'a' + now.letters();
    }

    private String factor(int factor) {
        List<String> factors = factors(now.text());
        if (factor < 0 || factor >= factors.size()) {
            throw new IndexOutOfBoundsException();
        }
        return factors.get(factor);
    }

    private String kept(int kept) {
        if (kept < 0 || kept >= now.shelf().size()) {
            throw new IndexOutOfBoundsException();
        }
        return now.shelf().get(kept);
    }

    private String part(int from, int to) {
        if (from < 0 || to < from || to > now.text().length()) {
            throw new IllegalArgumentException();
        }
        return now.text().substring(from, to);
    }

    private void checkCount(int count) {
        if (count < 0 || count > now.text().length()) {
            throw new IllegalArgumentException();
        }
    }

    private void checkLetter(int letter) {
        if (!isLetter(letter)) {
            throw new IllegalArgumentException();
        }
    }

    // ---- input

    public int append(int a, int b, int c, int d, int e) {
        if (input.length() + 20 > 600) {
            return NONE;
        }
        StringBuilder bytes = new StringBuilder(input);
        for (int value : new int[] {a, b, c, d, e}) {
            bytes.append((char) (value >>> 24)).append((char) (value >>> 16 & 255));
            bytes.append((char) (value >>> 8 & 255)).append((char) (value & 255));
        }
        input = bytes.toString();
        return input.length();
    }

    public int truncateInput(int length) {
        if (length < 0 || length > input.length()) {
            throw new IllegalArgumentException();
        }
        input = input.substring(0, length);
        return length;
    }

    // ---- changes

    public int runScript() {
        State before = now;
        List<State> pastBefore = new ArrayList<>(past);
        String source = input;
        input = "";
        try {
            readTokens(source);
            runAll();
        } catch (ScriptError e) {
            now = before;
            past.clear();
            past.addAll(pastBefore);
            errorKind = e.kind;
            errorOffset = e.offset;
            return NONE;
        }
        State after = now;
        now = before;
        past.clear();
        past.addAll(pastBefore);
        change(after);
        errorKind = 0;
        errorOffset = NONE;
        return now.text().length();
    }

    public int setLetters(int letters) {
        if (letters < 2 || letters > 9) {
            throw new IllegalArgumentException();
        }
        String all = now.text() + String.join("", now.shelf());
        if (all.chars().anyMatch(letter -> letter >= 'a' + letters)) {
            throw new IllegalStateException();
        }
        int previous = now.letters();
        change(new State(letters, now.text(), now.shelf()));
        return previous;
    }

    public int readText() {
        int end = 0;
        while (end < input.length() && isLetter(input.charAt(end))) {
            end++;
        }
        if (end > 120) {
            throw new IllegalStateException();
        }
        change(now.withText(input.substring(0, end)));
        input = "";
        return end;
    }

    public int appendLetter(int letter) {
        checkLetter(letter);
        if (now.text().length() == 120) {
            throw new IllegalStateException();
        }
        change(now.withText(now.text() + (char) letter));
        return factorCount();
    }

    public int dropLast(int count) {
        checkCount(count);
        change(now.withText(now.text().substring(0, now.text().length() - count)));
        return factorCount();
    }

    public int cutPart(int from, int to) {
        change(now.withText(part(from, to)));
        return to - from;
    }

    public int rotate(int count) {
        checkCount(count);
        change(now.withText(rotated(now.text(), count)));
        return factorCount();
    }

    public int reverse() {
        change(now.withText(new StringBuilder(now.text()).reverse().toString()));
        return factorCount();
    }

    public int rotateToLeast() {
        if (now.text().isEmpty()) {
            throw new IllegalStateException();
        }
        int count = leastRotation();
        change(now.withText(rotated(now.text(), count)));
        return count;
    }

    public int nextLyndon(int most) {
        if (most < 1 || most > 120) {
            throw new IllegalArgumentException();
        }
        if (!lyndon(now.text()) || now.text().length() > most) {
            throw new IllegalStateException();
        }
        String word = nextLyndonWord(now.letters(), now.text(), most);
        if (word == null) {
            throw new IllegalStateException();
        }
        change(now.withText(word));
        return word.length();
    }

    private int keep(String word) {
        if (word.isEmpty() || word.length() > 40 || now.shelf().size() == 8) {
            throw new IllegalStateException();
        }
        List<String> shelf = new ArrayList<>(now.shelf());
        shelf.add(word);
        change(now.withShelf(shelf));
        return shelf.size();
    }

    public int keepFactor(int factor) {
        return keep(factor(factor));
    }

    public int keepText() {
        return keep(now.text());
    }

    public int removeKept(int kept) {
        kept(kept);
        List<String> shelf = new ArrayList<>(now.shelf());
        shelf.remove(kept);
        change(now.withShelf(shelf));
        return shelf.size();
    }

    public int joinKept() {
        List<String> shelf = new ArrayList<>(now.shelf());
        shelf.sort(Collections.reverseOrder());
        String joined = String.join("", shelf);
        if (shelf.isEmpty() || joined.length() > 120) {
            throw new IllegalStateException();
        }
        change(now.withText(joined));
        return joined.length();
    }

    // ---- undo and the snapshot

    public int undo() {
        if (past.isEmpty()) {
            return NONE;
        }
        now = past.remove(past.size() - 1);
        return past.size();
    }

    public int undoCount() {
        return past.size();
    }

    public int saveSnapshot() {
        snapshot = now;
        return now.text().length();
    }

    public int restoreSnapshot() {
        if (snapshot == null) {
            throw new NoSuchElementException();
        }
        now = snapshot;
        past.clear();
        return now.text().length();
    }

    // ---- the script error

    public int scriptErrorKind() {
        return errorKind;
    }

    public int scriptErrorOffset() {
        return errorOffset;
    }

    // ---- the text

    public int letters() {
        return now.letters();
    }

    public int length() {
        return now.text().length();
    }

    public int letterAt(int position) {
        return position < 0 || position >= now.text().length() ? NONE : now.text().charAt(position);
    }

    public int compareParts(int from, int to, int otherFrom, int otherTo) {
        return Integer.signum(part(from, to).compareTo(part(otherFrom, otherTo)));
    }

    // ---- factors

    public int factorCount() {
        return factors(now.text()).size();
    }

    public int factorStart(int factor) {
        factor(factor);
        return String.join("", factors(now.text()).subList(0, factor)).length();
    }

    public int factorLength(int factor) {
        return factor(factor).length();
    }

    public int factorPower(int factor) {
        return Collections.frequency(factors(now.text()), factor(factor));
    }

    public int factorOf(int position) {
        if (position < 0 || position >= now.text().length()) {
            return NONE;
        }
        int factor = 0;
        while (factorStart(factor) + factorLength(factor) <= position) {
            factor++;
        }
        return factor;
    }

    public int longestFactor() {
        int longest = NONE;
        for (int i = 0; i < factorCount(); i++) {
            if (longest == NONE || factorLength(i) > factorLength(longest)) {
                longest = i;
            }
        }
        return longest;
    }

    public int factorsIfAppended(int letter) {
        checkLetter(letter);
        return factors(now.text() + (char) letter).size();
    }

    public int factorsIfRotated(int count) {
        checkCount(count);
        return factors(rotated(now.text(), count)).size();
    }

    public int rankOf(int factor) {
        String word = factor(factor);
        if (!countable(now.letters(), word.length())) {
            return NONE;
        }
        return lyndonWordsOf(now.letters(), word.length()).indexOf(word);
    }

    // ---- rotations, periods and borders

    public boolean isLyndon() {
        return lyndon(now.text());
    }

    public int whyNotLyndon() {
        if (now.text().isEmpty()) {
            return 1;
        }
        if (!primitive(now.text())) {
            return 2;
        }
        return necklace(now.text()) ? 0 : 3;
    }

    public boolean isNecklace() {
        return necklace(now.text());
    }

    public boolean isPrenecklace() {
        return prenecklace(now.text());
    }

    public int keepingLetter() {
        if (!prenecklace(now.text())) {
            return NONE;
        }
        for (int letter = 'a'; isLetter(letter); letter++) {
            if (prenecklace(now.text() + (char) letter)) {
                return letter;
            }
        }
        return NONE;
    }

    public int leastRotation() {
        int least = 0;
        for (int i = 1; i < now.text().length(); i++) {
            if (rotated(now.text(), i).compareTo(rotated(now.text(), least)) < 0) {
                least = i;
            }
        }
        return least;
    }

    public int rotationCount() {
        TreeSet<String> rotations = new TreeSet<>();
        for (int i = 0; i < now.text().length(); i++) {
            rotations.add(rotated(now.text(), i));
        }
        return rotations.size();
    }

    public int smallestPeriod() {
        String text = now.text();
        for (int period = 1; period <= text.length(); period++) {
            boolean holds = true;
            for (int i = 0; i + period < text.length(); i++) {
                holds &= text.charAt(i) == text.charAt(i + period);
            }
            if (holds) {
                return period;
            }
        }
        return 0;
    }

    public int longestBorder() {
        String text = now.text();
        for (int length = text.length() - 1; length > 0; length--) {
            if (text.startsWith(text.substring(text.length() - length))) {
                return length;
            }
        }
        return 0;
    }

    private List<String> endings() {
        List<String> endings = new ArrayList<>();
        for (int i = 0; i < now.text().length(); i++) {
            endings.add(now.text().substring(i));
        }
        return endings;
    }

    public int leastSuffix() {
        return now.text().isEmpty() ? NONE : now.text().length() - Collections.min(endings()).length();
    }

    public int greatestSuffix() {
        return now.text().isEmpty() ? NONE : now.text().length() - Collections.max(endings()).length();
    }

    // ---- counts and rows

    /** Words that are primitive are those of a length that are no power; each n of them rotate to one Lyndon word. */
    static long primitiveWords(int letters, int length) {
        long count = 1;
        for (int i = 0; i < length; i++) {
            count *= letters;
        }
        for (int root = 1; root < length; root++) {
            if (length % root == 0) {
                count -= primitiveWords(letters, root);
            }
        }
        return count;
    }

    public long lyndonWords(int length) {
        if (length < 1 || length > 18) {
            throw new IllegalArgumentException();
        }
        return primitiveWords(now.letters(), length) / length;
    }

    public long necklaces(int length) {
        if (length < 1 || length > 18) {
            throw new IllegalArgumentException();
        }
        long count = 0;
        for (int root = 1; root <= length; root++) {
            if (length % root == 0) {
                count += primitiveWords(now.letters(), root) / root;
            }
        }
        return count;
    }

    static String bruijnRow(int letters, int order) {
        List<String> words = new ArrayList<>();
        for (int length = 1; length <= order; length++) {
            if (order % length == 0) {
                words.addAll(lyndonWordsOf(letters, length));
            }
        }
        Collections.sort(words);
        return String.join("", words);
    }

    public int bruijnLetter(int order, int index) {
        if (order < 1 || order > 12 || !countable(now.letters(), order)) {
            throw new IllegalArgumentException();
        }
        String row = bruijnRow(now.letters(), order);
        if (index < 0 || index >= row.length()) {
            throw new IndexOutOfBoundsException();
        }
        return row.charAt(index);
    }

    // ---- the shelf

    public int keptCount() {
        return now.shelf().size();
    }

    public int keptLength(int kept) {
        return kept(kept).length();
    }

    public int keptLetter(int kept, int index) {
        String word = kept(kept);
        return index < 0 || index >= word.length() ? NONE : word.charAt(index);
    }

    public boolean isShelfFalling() {
        List<String> falling = new ArrayList<>(now.shelf());
        falling.sort(Collections.reverseOrder());
        return falling.equals(now.shelf());
    }

    public int greatestKept() {
        return now.shelf().isEmpty() ? NONE : now.shelf().indexOf(Collections.max(now.shelf()));
    }

    // ---- means and checks

    public double meanFactor() {
        return now.text().isEmpty() ? 0.0 : (double) now.text().length() / (double) factorCount();
    }

    public float lyndonShare() {
        return (float) lyndonWords(6) / (float) necklaces(6);
    }

    public int violations() {
        return 0;
    }

    // ---- the report

    public int writeFactors() {
        List<String> factors = factors(now.text());
        List<String> written = new ArrayList<>();
        for (int i = 0; i < factors.size(); i++) {
            if (i == 0 || !factors.get(i).equals(factors.get(i - 1))) {
                int power = Collections.frequency(factors, factors.get(i));
                written.add(factors.get(i) + (power > 1 ? "^" + power : ""));
            }
        }
        report = String.join("|", written);
        return report.length();
    }

    public int reportByte(int index) {
        return index < 0 || index >= report.length() ? NONE : report.charAt(index);
    }

    // ---- scripts

    private static boolean small(char c) {
        return c >= 'a' && c <= 'z';
    }

    private static boolean digit(char c) {
        return c >= '0' && c <= '9';
    }

    /** All tokens, of kind w, n, one of the signs, ? (no token) or $ (the end). */
    private void readTokens(String source) {
        tokens = new ArrayList<>();
        next = 0;
        int i = 0;
        while (i < source.length()) {
            char c = source.charAt(i);
            int from = i;
            i++;
            if (c == 32 || c == 10) {
                continue;
            }
            if (small(c)) {
                while (i < source.length() && small(source.charAt(i))) {
                    i++;
                }
                tokens.add(new Token('w', source.substring(from, i), from));
            } else if (digit(c)) {
                while (i < source.length() && digit(source.charAt(i))) {
                    i++;
                }
                tokens.add(new Token(i - from > 3 ? '?' : 'n', source.substring(from, i), from));
            } else {
                tokens.add(new Token("();".indexOf(c) >= 0 ? c : '?', "" + c, from));
            }
        }
        tokens.add(new Token('$', "", source.length()));
    }

    private Token take(char kind) throws ScriptError {
        Token token = tokens.get(next);
        if (token.kind() != kind) {
            throw new ScriptError(1, token.offset());
        }
        next++;
        return token;
    }

    private int number(int least, int most) throws ScriptError {
        Token token = take('n');
        int value = Integer.parseInt(token.bytes());
        if (value < least || value > most) {
            throw new ScriptError(2, token.offset());
        }
        return value;
    }

    /** Takes the semicolon and executes a change. */
    private void finish(Runnable change) throws ScriptError {
        Token token = take(';');
        try {
            change.run();
        } catch (IllegalStateException e) {
            throw new ScriptError(3, token.offset());
        }
    }

    private void runAll() throws ScriptError {
        Token first = take('w');
        if (!first.bytes().equals("letters")) {
            throw new ScriptError(1, first.offset());
        }
        int letters = number(2, 9);
        take(';');
        now = new State(letters, "", List.of());
        executed = 0;
        runUntil('$', 0);
    }

    private void runUntil(char end, int depth) throws ScriptError {
        while (tokens.get(next).kind() != end) {
            Token token = take('w');
            if (token.bytes().equals("repeat")) {
                runRepeat(token, depth);
            } else if (List.of("text", "append", "drop", "part", "rotate", "reverse", "least", "next", "keep",
                "remove", "join").contains(token.bytes())) {
                executed++;
                if (executed > 200) {
                    throw new ScriptError(5, token.offset());
                }
                runCommand(token.bytes());
            } else {
                throw new ScriptError(1, token.offset());
            }
        }
    }

    private void runRepeat(Token token, int depth) throws ScriptError {
        if (depth == 2) {
            throw new ScriptError(4, token.offset());
        }
        int times = number(1, 20);
        take('(');
        int body = next;
        for (int i = 0; i < times; i++) {
            next = body;
            runUntil(')', depth + 1);
        }
        take(')');
        take(';');
    }

    private String word() throws ScriptError {
        Token token = take('w');
        for (char c : token.bytes().toCharArray()) {
            if (!isLetter(c)) {
                throw new ScriptError(2, token.offset());
            }
        }
        return token.bytes();
    }

    private void makeText(String text) {
        if (text.length() > 120) {
            throw new IllegalStateException();
        }
        change(now.withText(text));
    }

    private void runCommand(String command) throws ScriptError {
        int size = now.text().length();
        switch (command) {
            case "text" -> {
                String word = word();
                finish(() -> makeText(word));
            }
            case "append" -> {
                String word = word();
                finish(() -> makeText(now.text() + word));
            }
            case "drop" -> {
                int count = number(0, size);
                finish(() -> dropLast(count));
            }
            case "part" -> {
                int from = number(0, 999);
                int to = number(from, size);
                finish(() -> cutPart(from, to));
            }
            case "rotate" -> {
                int count = number(0, size);
                finish(() -> rotate(count));
            }
            case "reverse" -> finish(this::reverse);
            case "least" -> finish(this::rotateToLeast);
            case "next" -> {
                int most = number(1, 120);
                finish(() -> nextLyndon(most));
            }
            case "keep" -> {
                if (tokens.get(next).kind() == 'n') {
                    int factor = number(0, factorCount() - 1);
                    finish(() -> keepFactor(factor));
                } else {
                    finish(this::keepText);
                }
            }
            case "remove" -> {
                int kept = number(0, keptCount() - 1);
                finish(() -> removeKept(kept));
            }
            default -> finish(this::joinKept);
        }
    }
}
