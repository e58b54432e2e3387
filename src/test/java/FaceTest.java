import java.lang.reflect.Constructor;
import java.lang.reflect.Field;
import java.lang.reflect.Member;
import java.lang.reflect.Method;
import java.lang.reflect.Modifier;
import java.util.ArrayList;
import java.util.Arrays;
import java.util.List;
import java.util.TreeSet;

/** The class shows the document's face and nothing else. */
final class FaceTest {
    private FaceTest() {
    }

    public static void main(String[] args) {
        Script.due("the methods", visibleMethods(), new TreeSet<>(Arrays.asList(
                "int begin(int)", "int get(int, int)", "void set(int, int, int)", "void erase(int, int)",
                "int step(int)", "boolean kill(int)", "int clear(int)", "int tick(int)", "boolean crash(int)",
                "boolean recover(int)", "boolean fail(int, int, boolean)", "int failOracle()", "int sweep(int)",
                "int transaction(int, int)", "int lock(int, int)", "int record(int, int, int)",
                "int tablet(int, int)", "int oracle(int)")));
        Script.due("the constructors", visibleConstructors(), Arrays.asList("public TabletCommits(int)"));
        Script.due("the fields", visibleFields(), Arrays.asList("public static final int TabletCommits.NONE"));
        Script.due("NONE", TabletCommits.NONE, -1);
        Script.due("final", Modifier.isFinal(TabletCommits.class.getModifiers()), true);
        Script.due("what the methods may throw", namedExceptions(), new TreeSet<>(Arrays.asList(
                "begin [IllegalArgumentException, IllegalStateException]",
                "clear [IllegalArgumentException, IllegalStateException]",
                "erase [IllegalArgumentException, IllegalStateException]",
                "get [IllegalArgumentException, IllegalStateException, NoSuchElementException, UnsupportedOperationException]",
                "set [IllegalArgumentException, IllegalStateException]",
                "step [IllegalArgumentException, NoSuchElementException, IllegalStateException]")));
        Script.due("a private method with a public one's name", sharedNames(), new TreeSet<String>());
        Script.end();
    }

    private static TreeSet<String> visibleMethods() {
        TreeSet<String> found = new TreeSet<>();
        for (Method method : TabletCommits.class.getDeclaredMethods()) {
            if (isVisible(method)) {
                String types = Arrays.toString(method.getParameterTypes());
                found.add(method.getReturnType() + " " + method.getName() + "(" + types.substring(1, types.length() - 1) + ")");
            }
        }
        return found;
    }

    private static TreeSet<String> namedExceptions() {
        TreeSet<String> found = new TreeSet<>();
        for (Method method : TabletCommits.class.getDeclaredMethods()) {
            List<String> names = new ArrayList<>();
            for (Class<?> type : method.getExceptionTypes()) {
                names.add(type.getSimpleName());
            }
            if (!names.isEmpty()) {
                found.add(method.getName() + " " + names);
            }
        }
        return found;
    }

    private static List<String> visibleConstructors() {
        List<String> found = new ArrayList<>();
        for (Constructor<?> constructor : TabletCommits.class.getDeclaredConstructors()) {
            if (isVisible(constructor)) {
                found.add(constructor.toString());
            }
        }
        return found;
    }

    private static List<String> visibleFields() {
        List<String> found = new ArrayList<>();
        for (Field field : TabletCommits.class.getDeclaredFields()) {
            if (isVisible(field)) {
                found.add(field.toString());
            }
        }
        return found;
    }

    private static TreeSet<String> sharedNames() {
        TreeSet<String> open = new TreeSet<>();
        TreeSet<String> hidden = new TreeSet<>();
        for (Method method : TabletCommits.class.getDeclaredMethods()) {
            (isVisible(method) ? open : hidden).add(method.getName());
        }
        open.retainAll(hidden);
        return open;
    }

    private static boolean isVisible(Member member) {
        return !Modifier.isPrivate(member.getModifiers()) && !member.isSynthetic();
    }
}
