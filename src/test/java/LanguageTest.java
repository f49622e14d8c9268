import java.lang.management.ManagementFactory;
import java.lang.reflect.Constructor;
import java.lang.reflect.Field;
import java.lang.reflect.Method;
import java.lang.reflect.Modifier;
import java.nio.file.Files;
import java.nio.file.Path;
import java.util.ArrayList;
import java.util.List;
import java.util.Set;
import java.util.TreeSet;
import java.util.regex.Matcher;
import java.util.regex.Pattern;

/** What shared/LANGUAGE.md asks of the class, as far as it can be seen from outside. */
public final class LanguageTest {
    private static final Checks CHECKS = new Checks("LanguageTest");
    private static final Set<String> FACE = Set.of(
        "int draw(int,int)", "int join(int,int,int)", "int rub(int,int)", "int clear(int)", "int slide(int,int)",
        "int turn(int,int)", "int exchange(int,int)", "int takeUp(int)", "int end(int,int,int)", "int panel(int,int)",
        "int fold(int,int)", "int hand(int,int)", "int line(int,int)", "int count(int)", "int bestSlide(int,int)",
        "int bestExchange(int)", "int ifTurned(int,int,int)", "int put(long)", "int wipe()", "int fault()",
        "int undo()", "int save(int)", "int restore(int)");
    private static final Set<String> IMPORTS = Set.of("java.util.ArrayList", "java.util.Arrays", "java.util.Iterator",
        "java.util.List");
    private static final long MOST_BYTES = 1 << 20;

    public static void main(String[] args) throws Exception {
        faceIsTheDocuments();
        nestedClassesAreHidden();
        wordsAreAllowed();
        callsMakeLittle();
        CHECKS.close();
    }

    private static String written(Method method) {
        List<String> types = new ArrayList<>();
        for (Class<?> type : method.getParameterTypes()) {
            types.add(type.getName());
        }
        return method.getReturnType().getName() + " " + method.getName() + "(" + String.join(",", types) + ")";
    }

    private static void faceIsTheDocuments() {
        Class<?> face = FoldedStrips.class;
        CHECKS.holds("the class is public and final", (face.getModifiers() & (Modifier.PUBLIC | Modifier.FINAL))
            == (Modifier.PUBLIC | Modifier.FINAL));
        Set<String> shown = new TreeSet<>();
        Set<String> names = new TreeSet<>();
        for (Method method : face.getDeclaredMethods()) {
            if (!Modifier.isPrivate(method.getModifiers())) {
                shown.add(written(method));
                names.add(method.getName());
                CHECKS.holds(method + " is public and not static", method.getModifiers() == Modifier.PUBLIC);
            }
        }
        CHECKS.holds("the methods are those of the document: " + shown, shown.equals(FACE));
        for (Method method : face.getDeclaredMethods()) {
            CHECKS.holds("a private method has the name of a public one: " + method,
                !Modifier.isPrivate(method.getModifiers()) || !names.contains(method.getName()));
        }
        Set<String> constants = new TreeSet<>();
        for (Field field : face.getDeclaredFields()) {
            if (!Modifier.isPrivate(field.getModifiers())) {
                constants.add(field.getName());
            }
            CHECKS.holds(field + " is static, but not final",
                !Modifier.isStatic(field.getModifiers()) || Modifier.isFinal(field.getModifiers()));
        }
        CHECKS.holds("the constants are those of the document: " + constants, constants.equals(
            Set.of("NO_SUCH", "BAD_VALUE", "BAD_TEXT", "TOO_MANY", "NOT_POSSIBLE", "NONE")));
        CHECKS.due("constructors", 1, face.getDeclaredConstructors().length);
        for (Constructor<?> constructor : face.getDeclaredConstructors()) {
            CHECKS.due("what " + constructor + " takes", 0, constructor.getParameterCount());
        }
    }

    private static void nestedClassesAreHidden() {
        Class<?>[] nested = FoldedStrips.class.getDeclaredClasses();
        CHECKS.holds("at most twelve classes", nested.length + 1 <= 12);
        for (Class<?> inside : nested) {
            int how = inside.getModifiers();
            CHECKS.holds(inside + " is static", Modifier.isStatic(how));
            CHECKS.holds(inside + " is hidden", !Modifier.isPublic(how) && !Modifier.isProtected(how));
        }
    }

    private static String codeWithoutComments() throws Exception {
        String source = Files.readString(Path.of("src/main/java/FoldedStrips.java"));
        CHECKS.holds("signs 1 to 127 only", source.chars().allMatch(sign -> sign >= 1 && sign <= 127));
        return source.replaceAll("(?s)/\\*.*?\\*/", " ").replaceAll("//[^\n]*", " ");
    }

    private static void wordsAreAllowed() throws Exception {
        String code = codeWithoutComments();
        noneOf(code, "\\b(throw|throws|try|catch|synchronized|assert|package|native|volatile|strictfp|\\w+Exact)\\b");
        noneOf(code, "\\b(Random|Thread|System\\.(?!arraycopy)\\w+|(equals|hashCode|toString)\\([^)]*\\)\\s*\\{)");
        // An arrow is allowed behind the cases of a switch, not as a lambda.
        noneOf(code.replaceAll("\\b(case\\b[^;:{}]*?|default\\s*)->", " "), "->|::");
        Matcher imports = Pattern.compile("import\\s+([^;]+);").matcher(code);
        while (imports.find()) {
            CHECKS.holds("an import: " + imports.group(1), IMPORTS.contains(imports.group(1)));
        }
    }

    private static void noneOf(String code, String forbidden) {
        Matcher found = Pattern.compile(forbidden).matcher(code);
        while (found.find()) {
            CHECKS.holds("a forbidden word: " + found.group(), false);
        }
    }

    /** All calls of a run share one room, so that the calls of one object may not take much of it. */
    private static void callsMakeLittle() {
        var threads = (com.sun.management.ThreadMXBean) ManagementFactory.getThreadMXBean();
        long thread = Thread.currentThread().getId();
        mostCalls(new FoldedStrips());
        FoldedStrips strips = new FoldedStrips();
        long before = threads.getThreadAllocatedBytes(thread);
        mostCalls(strips);
        long made = threads.getThreadAllocatedBytes(thread) - before;
        CHECKS.holds("the calls of an object make little: " + made + " bytes", made < MOST_BYTES);
    }

    /** Some 500 calls, as many as an object is used for. */
    private static void mostCalls(FoldedStrips strips) {
        for (int round = 0; round < 4; round++) {
            someChanges(strips, round);
            for (int what = 0; what < 11; what++) {
                strips.end(1, 0, what);
                strips.panel(1, what);
                strips.fold(1, what);
                strips.hand(1, what);
                strips.line(0, what);
                strips.count(what);
                strips.bestSlide(1, what);
                strips.bestExchange(what);
                strips.ifTurned(1, 1, what);
            }
        }
    }

    private static void someChanges(FoldedStrips strips, int round) {
        strips.put(0x617C61);
        strips.fault();
        strips.draw(0, 1);
        strips.join(1, 0, 12);
        strips.join(1, 1, 13);
        strips.rub(1, 13);
        strips.slide(1, 1);
        strips.turn(1, 2);
        strips.exchange(1, 2);
        strips.takeUp(1);
        strips.save(0);
        strips.restore(0);
        strips.clear(round);
        strips.wipe();
        strips.undo();
    }
}
