import java.lang.management.ManagementFactory;
import java.lang.reflect.Constructor;
import java.lang.reflect.Field;
import java.lang.reflect.Method;
import java.lang.reflect.Modifier;
import java.nio.file.Files;
import java.nio.file.Path;
import java.util.ArrayList;
import java.util.List;
import java.util.Set;
import java.util.TreeSet;
import java.util.regex.Matcher;
import java.util.regex.Pattern;

/** What shared/LANGUAGE.md asks of the class, as far as it can be seen from outside. */
public final class LanguageTest {
    private static final Checks CHECKS = new Checks("LanguageTest");
    private static final Set<String> FACE = Set.of(
        "int draw(int,int)", "int join(int,int,int)", "int rub(int,int)", "int clear(int)", "int slide(int,int)",
        "int turn(int,int)", "int exchange(int,int)", "int takeUp(int)", "int end(int,int,int)", "int panel(int,int)",
        "int fold(int,int)", "int hand(int,int)", "int line(int,int)", "int count(int)", "int bestSlide(int,int)",
        "int bestExchange(int)", "int ifTurned(int,int,int)", "int put(long)", "int wipe()", "int fault()",
        "int undo()", "int save(int)", "int restore(int)");

    public static void main(String[] args) throws Exception {
        faceIsTheDocuments();
        nestedClassesAreHidden();
        wordsAreAllowed();
        callsMakeNothing();
        CHECKS.close();
    }

    private static String written(Method method) {
        List<String> types = new ArrayList<>();
        for (Class<?> type : method.getParameterTypes()) {
            types.add(type.getName());
        }
        return method.getReturnType().getName() + " " + method.getName() + "(" + String.join(",", types) + ")";
    }

    private static void faceIsTheDocuments() {
        Class<?> face = FoldedStrips.class;
        CHECKS.holds("the class is public and final", (face.getModifiers() & (Modifier.PUBLIC | Modifier.FINAL))
            == (Modifier.PUBLIC | Modifier.FINAL));
        Set<String> shown = new TreeSet<>();
        Set<String> names = new TreeSet<>();
        for (Method method : face.getDeclaredMethods()) {
            if (!Modifier.isPrivate(method.getModifiers())) {
                shown.add(written(method));
                names.add(method.getName());
                CHECKS.holds(method + " is public and not static", method.getModifiers() == Modifier.PUBLIC);
            }
        }
        CHECKS.holds("the methods are those of the document: " + shown, shown.equals(FACE));
        for (Method method : face.getDeclaredMethods()) {
            CHECKS.holds("a private method has the name of a public one: " + method,
                !Modifier.isPrivate(method.getModifiers()) || !names.contains(method.getName()));
        }
        Set<String> constants = new TreeSet<>();
        for (Field field : face.getDeclaredFields()) {
            if (!Modifier.isPrivate(field.getModifiers())) {
                constants.add(field.getName());
            }
            CHECKS.holds(field + " is static, but not final",
                !Modifier.isStatic(field.getModifiers()) || Modifier.isFinal(field.getModifiers()));
        }
        CHECKS.holds("the constants are those of the document: " + constants, constants.equals(
            Set.of("NO_SUCH", "BAD_VALUE", "BAD_TEXT", "TOO_MANY", "NOT_POSSIBLE", "NONE")));
        CHECKS.due("constructors", 1, face.getDeclaredConstructors().length);
        for (Constructor<?> constructor : face.getDeclaredConstructors()) {
            CHECKS.due("what " + constructor + " takes", 0, constructor.getParameterCount());
        }
    }

    private static void nestedClassesAreHidden() {
        Class<?>[] nested = FoldedStrips.class.getDeclaredClasses();
        CHECKS.holds("at most twelve classes", nested.length + 1 <= 12);
        for (Class<?> inside : nested) {
            int how = inside.getModifiers();
            CHECKS.holds(inside + " is static", Modifier.isStatic(how));
            CHECKS.holds(inside + " is hidden", !Modifier.isPublic(how) && !Modifier.isProtected(how));
        }
    }

    private static void wordsAreAllowed() throws Exception {
        String source = Files.readString(Path.of("src/main/java/FoldedStrips.java"));
        String code = source.replaceAll("(?s)/\\*.*?\\*/", " ").replaceAll("//[^\n]*", " ");
        String forbidden = "\\b(throw|throws|try|catch|synchronized|assert|package|instanceof|equals|hashCode|toString"
            + "|Random|Thread|System\\.(?!arraycopy)\\w+|native|volatile|strictfp|\\w+Exact)\\b|->|::";
        Matcher found = Pattern.compile(forbidden).matcher(code);
        while (found.find()) {
            CHECKS.holds("a forbidden word: " + found.group(), false);
        }
        Matcher imports = Pattern.compile("import\\s+([^;]+);").matcher(code);
        while (imports.find()) {
            CHECKS.holds("an import: " + imports.group(1), imports.group(1).equals("java.util.Arrays"));
        }
        CHECKS.holds("signs 1 to 127 only", source.chars().allMatch(sign -> sign >= 1 && sign <= 127));
    }

    private static void callsMakeNothing() {
        var threads = (com.sun.management.ThreadMXBean) ManagementFactory.getThreadMXBean();
        FoldedStrips strips = new FoldedStrips();
        oneOfEach(strips);
        long thread = Thread.currentThread().getId();
        long before = threads.getThreadAllocatedBytes(thread);
        for (int round = 0; round < 500; round++) {
            oneOfEach(strips);
        }
        long made = threads.getThreadAllocatedBytes(thread) - before;
        CHECKS.holds("calls make no objects: " + made + " bytes", made < 4096);
    }

    private static void oneOfEach(FoldedStrips strips) {
        strips.put(0x617C61);
        strips.draw(0, 1);
        strips.join(1, 0, 12);
        strips.join(1, 1, 13);
        strips.rub(1, 13);
        strips.slide(1, 1);
        strips.turn(1, 2);
        strips.exchange(1, 2);
        strips.takeUp(1);
        strips.save(0);
        strips.restore(0);
        for (int what = 0; what < 11; what++) {
            strips.end(1, 0, what);
            strips.panel(1, what);
            strips.fold(1, what);
            strips.hand(1, what);
            strips.line(0, what);
            strips.count(what);
            strips.bestSlide(1, what);
            strips.bestExchange(what);
            strips.ifTurned(1, 1, what);
        }
        strips.clear(2);
        strips.fault();
        strips.wipe();
        strips.undo();
    }
}
