import java.io.IOException;
import java.lang.reflect.Constructor;
import java.lang.reflect.Field;
import java.lang.reflect.Method;
import java.lang.reflect.Modifier;
import java.nio.file.Files;
import java.nio.file.Path;
import java.util.Arrays;
import java.util.Set;
import java.util.TreeSet;

/** The face: exactly the members that the document names are visible, and no private method bears a public name. */
public final class FaceTests {
    private static final String[] METHODS = {
        "int append(int,int,int,int,int)", "int truncateInput(int)", "int runScript()", "int setLetters(int)",
        "int readText()", "int appendLetter(int)", "int dropLast(int)", "int cutPart(int,int)", "int rotate(int)",
        "int reverse()", "int rotateToLeast()", "int nextLyndon(int)", "int keepFactor(int)", "int keepText()",
        "int removeKept(int)", "int joinKept()", "int undo()", "int undoCount()", "int saveSnapshot()",
        "int restoreSnapshot()", "int scriptErrorKind()", "int scriptErrorOffset()", "int letters()", "int length()",
        "int letterAt(int)", "int compareParts(int,int,int,int)", "int factorCount()", "int factorStart(int)",
        "int factorLength(int)", "int factorPower(int)", "int factorOf(int)", "int longestFactor()",
        "int factorsIfAppended(int)", "int factorsIfRotated(int)", "int rankOf(int)", "boolean isLyndon()",
        "int whyNotLyndon()", "boolean isNecklace()", "boolean isPrenecklace()", "int keepingLetter()",
        "int leastRotation()", "int rotationCount()", "int smallestPeriod()", "int longestBorder()",
        "int leastSuffix()", "int greatestSuffix()", "long lyndonWords(int)", "long necklaces(int)",
        "int bruijnLetter(int,int)", "int keptCount()", "int keptLength(int)", "int keptLetter(int,int)",
        "boolean isShelfFalling()", "int greatestKept()", "double meanFactor()", "float lyndonShare()",
        "int violations()", "int writeFactors()", "int reportByte(int)",
    };

    private static final Path DOCUMENT = Path.of("../shared/DOC.md");

    public static void main(String[] args) throws IOException {
        Set<String> visible = new TreeSet<>();
        Set<String> publicNames = new TreeSet<>();
        for (Method method : LyndonBench.class.getDeclaredMethods()) {
            if (!Modifier.isPrivate(method.getModifiers()) && !method.isSynthetic()) {
                visible.add(signature(method));
                publicNames.add(method.getName());
                Checks.due(method + " is public, not static", true,
                    () -> Modifier.isPublic(method.getModifiers()) && !Modifier.isStatic(method.getModifiers()));
            }
        }
        Checks.due("the methods", new TreeSet<>(Arrays.asList(METHODS)), () -> visible);
        checkPrivateNames(LyndonBench.class, publicNames);
        checkConstants();
        Constructor<?>[] constructors = LyndonBench.class.getDeclaredConstructors();
        Checks.due("the constructors", 1, () -> constructors.length);
        Checks.due("the constructor's parameters", 0, () -> constructors[0].getParameterCount());
        Checks.due("the constructor is public", true, () -> Modifier.isPublic(constructors[0].getModifiers()));
        Checks.due("the class is public and final", true, () -> Modifier.isPublic(LyndonBench.class.getModifiers())
            && Modifier.isFinal(LyndonBench.class.getModifiers()));
        if (Files.exists(DOCUMENT)) {
            checkDocument(Files.readString(DOCUMENT));
        }
        Checks.end();
    }

    /** The document's face has these methods, each with the exceptions that it names, in its order. */
    private static void checkDocument(String document) {
        Set<String> want = new TreeSet<>();
        int begin = document.indexOf("public final class LyndonBench {");
        for (String line : document.substring(begin, document.indexOf("\n}", begin)).split("\n")) {
            if (line.matches(" +public \\w+ \\w+\\(.*;")) {
                want.add(line.trim().replaceAll("\\bint \\w+([,)])", "int$1").replace(";", ""));
            }
        }
        Set<String> got = new TreeSet<>();
        for (Method method : LyndonBench.class.getDeclaredMethods()) {
            if (Modifier.isPublic(method.getModifiers())) {
                got.add("public " + signature(method).replace(",", ", ") + exceptions(method));
            }
        }
        Checks.due("the number of methods in the document", METHODS.length, want::size);
        Checks.due("the methods and their exceptions", want, () -> got);
    }

    private static String exceptions(Method method) {
        StringBuilder names = new StringBuilder();
        for (Class<?> type : method.getExceptionTypes()) {
            names.append(names.length() == 0 ? " throws " : ", ").append(type.getSimpleName());
        }
        return names.toString();
    }

    private static String signature(Method method) {
        StringBuilder types = new StringBuilder();
        for (Class<?> type : method.getParameterTypes()) {
            types.append(types.length() == 0 ? "" : ",").append(type.getName());
        }
        return method.getReturnType().getName() + " " + method.getName() + "(" + types + ")";
    }

    private static void checkPrivateNames(Class<?> type, Set<String> publicNames) {
        for (Method method : type.getDeclaredMethods()) {
            boolean ofFace = type == LyndonBench.class && Modifier.isPublic(method.getModifiers());
            Checks.due(method + " bears a public name", false,
                () -> !ofFace && publicNames.contains(method.getName()));
        }
        for (Class<?> inner : type.getDeclaredClasses()) {
            Checks.due(inner + " is static and not public", true,
                () -> Modifier.isStatic(inner.getModifiers()) && !Modifier.isPublic(inner.getModifiers()));
            checkPrivateNames(inner, publicNames);
        }
    }

    private static void checkConstants() {
        Set<String> visible = new TreeSet<>();
        for (Field field : LyndonBench.class.getDeclaredFields()) {
            if (!Modifier.isPrivate(field.getModifiers()) && !field.isSynthetic()) {
                visible.add(Modifier.toString(field.getModifiers()) + " " + field.getType() + " " + field.getName());
            }
            Checks.due(field + " is final if it is static", true,
                () -> !Modifier.isStatic(field.getModifiers()) || Modifier.isFinal(field.getModifiers()));
        }
        Set<String> want = new TreeSet<>();
        for (String name : new String[] {"NONE", "LYNDON", "EMPTY", "NOT_PRIMITIVE", "SMALLER_ROTATION"}) {
            want.add("public static final int " + name);
        }
        Checks.due("the constants", want, () -> visible);
        Checks.due("NONE", -1, () -> LyndonBench.NONE);
        Checks.due("LYNDON", 0, () -> LyndonBench.LYNDON);
        Checks.due("EMPTY", 1, () -> LyndonBench.EMPTY);
        Checks.due("NOT_PRIMITIVE", 2, () -> LyndonBench.NOT_PRIMITIVE);
        Checks.due("SMALLER_ROTATION", 3, () -> LyndonBench.SMALLER_ROTATION);
    }
}
