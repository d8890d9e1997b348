import java.io.IOException;
import java.lang.reflect.Constructor;
import java.lang.reflect.Executable;
import java.lang.reflect.Field;
import java.lang.reflect.Method;
import java.lang.reflect.Modifier;
import java.nio.file.Files;
import java.nio.file.Path;
import java.util.Set;
import java.util.TreeSet;
import java.util.regex.Matcher;
import java.util.regex.Pattern;

/** What of ../shared/LANGUAGE.md the class file and the source show by themselves. */
public final class LanguageTest {
    private static final Set<String> FACE = Set.of("letter", "blank", "fault", "coast", "river", "as", "row",
        "hour", "rain", "drought", "wide", "best", "see", "forget", "seasons", "image", "restore", "count", "digest");
    private static final Set<String> CONSTANTS = Set.of("NONE", "UNKNOWN", "OUTSIDE", "STATE", "FULL");

    public static void main(String[] args) throws IOException {
        Checks checks = new Checks("LanguageTest");
        theFace(checks);
        dueFields(checks, RiversQueue.class);
        Class<?>[] inside = RiversQueue.class.getDeclaredClasses();
        checks.due("at most twelve classes", inside.length < 12);
        for (Class<?> one : inside) {
            dueInside(checks, one);
        }
        theSource(checks);
        checks.end();
    }

    private static void theFace(Checks checks) {
        checks.due("the class is public and final", RiversQueue.class.getModifiers(), Modifier.PUBLIC | Modifier.FINAL);
        Constructor<?>[] constructors = RiversQueue.class.getDeclaredConstructors();
        checks.due("one constructor", constructors.length, 1);
        checks.due("it is public", constructors[0].getModifiers(), Modifier.PUBLIC);
        Set<String> face = new TreeSet<>();
        for (Method method : RiversQueue.class.getDeclaredMethods()) {
            boolean isOpen = Modifier.isPublic(method.getModifiers());
            checks.due(method + " is public or private", isOpen || Modifier.isPrivate(method.getModifiers()));
            checks.due(method + " is of the face, or private", isOpen == FACE.contains(method.getName()));
            if (isOpen) {
                face.add(method.getName());
            }
            dueParameters(checks, method);
        }
        checks.due("the whole face stands", face.equals(new TreeSet<>(FACE)));
    }

    private static void dueFields(Checks checks, Class<?> one) {
        int own = 0;
        for (Field field : one.getDeclaredFields()) {
            boolean isStatic = Modifier.isStatic(field.getModifiers());
            own += isStatic ? 0 : 1;
            checks.due(field + " is final, if static", !isStatic || Modifier.isFinal(field.getModifiers()));
            boolean isOpen = one == RiversQueue.class && CONSTANTS.contains(field.getName());
            checks.due(field + " is private, if no constant of the face",
                isOpen ? Modifier.isPublic(field.getModifiers()) : Modifier.isPrivate(field.getModifiers()));
        }
        checks.due(one + " has at most twenty fields", own <= 20);
    }

    private static void dueInside(Checks checks, Class<?> one) {
        checks.due(one + " is static", Modifier.isStatic(one.getModifiers()));
        checks.due(one + " is private", Modifier.isPrivate(one.getModifiers()));
        checks.due(one + " has no classes inside", one.getDeclaredClasses().length, 0);
        dueFields(checks, one);
        for (Method method : one.getDeclaredMethods()) {
            checks.due(method + " bears no public name", !FACE.contains(method.getName()));
            dueParameters(checks, method);
        }
    }

    private static void dueParameters(Checks checks, Executable method) {
        checks.due(method + " takes at most seven", method.getParameterCount() <= 7);
    }

    private static void theSource(Checks checks) throws IOException {
        String source = Files.readString(Path.of("src/main/java/RiversQueue.java"));
        String bare = source.replaceAll("(?s)/\\*.*?\\*/", " ").replaceAll("//[^\n]*", " ");
        String[] ruledOut = {"\\bthrow", "\\btry\\b", "\\bcatch\\b", "\\bsynchronized\\b", "\\bassert\\b",
            "\\bprotected\\b", "\\bpackage\\b", "\\bstatic\\s*\\{", "->", "::", "\\bhashCode\\b", "\\btoString\\b",
            "\\bThread\\b", "\\bRandom\\b", "\\bSystem\\.(?!arraycopy)", "\\bjava\\.(?!util\\.Arrays;)", "Exact\\b"};
        for (String pattern : ruledOut) {
            Matcher matcher = Pattern.compile(pattern).matcher(bare);
            checks.due("the source has no " + pattern, !matcher.find());
        }
        checks.due("the source is plain ASCII", source.chars().allMatch(sign -> sign < 128));
    }
}
