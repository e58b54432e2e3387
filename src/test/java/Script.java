import java.lang.reflect.InvocationTargetException;
import java.lang.reflect.Method;
import java.lang.reflect.Modifier;
import java.util.ArrayList;
import java.util.Arrays;
import java.util.HashMap;
import java.util.HashSet;
import java.util.List;
import java.util.Map;
import java.util.Set;

/**
 * Runs written rows of calls on a new object. A row is a call and what is due:
 * "get 0 5 = 6", "get 0 9 ! NoSuchElementException", or "set 0 5 6" for what must just not throw.
 * A row that begins with ~ is a call that must change nothing as well, which Twins finds out.
 */
final class Script {
    private static final int MOST_CALLS = 512;

    private static final Map<String, Method> METHODS = new HashMap<>();
    private static final Set<String> SENTENCES = new HashSet<>();
    private static int wrong = 0;
    private static int rows = 0;

    private Script() {
    }

    /** A test of one sentence: its name is the promise (or the part of the document) and the sentence's words. */
    static void sentence(String promise, String words, int life, String text) {
        SENTENCES.add(promise + words);
        run(promise + ", \"" + words + "\"", life, text);
    }

    static void run(String name, int life, String text) {
        TabletCommits object = new TabletCommits(life);
        List<String[]> played = new ArrayList<>();
        for (String line : text.split("\n")) {
            String row = line.replaceAll("//.*", "").trim();
            if (!row.isEmpty()) {
                runRow(name, life, object, played, row);
            }
        }
        if (played.size() > MOST_CALLS) {
            throw new IllegalArgumentException("more calls than an object is used for: " + name);
        }
    }

    static void due(String what, Object got, Object want) {
        rows++;
        if (!want.equals(got)) {
            wrong++;
            System.out.println(what + " answered " + got + ", due is " + want);
        }
    }

    /** The answer as a text: a number (a boolean counts 1 or 0), "ok" of a void, or "! Exception". */
    static String call(TabletCommits object, String... words) {
        Method method = methodNamed(words[0]);
        Class<?>[] types = method.getParameterTypes();
        Object[] arguments = new Object[types.length];
        for (int i = 0; i < types.length; i++) {
            arguments[i] = types[i] == boolean.class ? (Object) Boolean.valueOf(words[i + 1]) : Integer.valueOf(words[i + 1]);
        }
        try {
            Object answer = method.invoke(object, arguments);
            if (answer instanceof Boolean) {
                return (Boolean) answer ? "1" : "0";
            }
            return answer == null ? "ok" : answer.toString();
        } catch (InvocationTargetException e) {
            return "! " + e.getCause().getClass().getSimpleName();
        } catch (IllegalAccessException e) {
            throw new IllegalStateException(e);
        }
    }

    static void end() {
        String of = SENTENCES.isEmpty() ? "" : ", of " + SENTENCES.size() + " sentences";
        System.out.println(wrong == 0 ? rows + " answers are as due" + of : wrong + " answers are not as due" + of);
        if (wrong != 0) {
            System.exit(1);
        }
    }

    private static void runRow(String name, int life, TabletCommits object, List<String[]> played, String row) {
        boolean changesNothing = row.startsWith("~");
        String[] words = row.replaceFirst("^~ *", "").split(" +");
        int mark = Math.max(Arrays.asList(words).indexOf("="), Arrays.asList(words).indexOf("!"));
        String[] call = mark < 0 ? words : Arrays.copyOf(words, mark);
        if (call.length != methodNamed(call[0]).getParameterCount() + 1) {
            throw new IllegalArgumentException("a row with the wrong number of arguments: " + row);
        }
        String place = name + ": call " + (played.size() + 1) + ", " + String.join(" ", call);
        if (changesNothing) {
            due("what is changed by " + place, Twins.difference(life, played, call), "nothing");
        }
        String got = call(object, call);
        if (mark < 0) {
            due(place, got.startsWith("!") ? got : "no exception", "no exception");
        } else {
            due(place, got, words[mark].equals("=") ? words[mark + 1] : "! " + words[mark + 1]);
        }
        played.add(call);
    }

    private static Method methodNamed(String name) {
        return METHODS.computeIfAbsent(name, Script::findMethod);
    }

    private static Method findMethod(String name) {
        for (Method method : TabletCommits.class.getDeclaredMethods()) {
            if (method.getName().equals(name) && Modifier.isPublic(method.getModifiers())) {
                return method;
            }
        }
        throw new IllegalArgumentException("no method " + name);
    }
}
