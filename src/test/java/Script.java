import java.lang.reflect.InvocationTargetException;
import java.lang.reflect.Method;
import java.util.Arrays;

/**
 * Runs written rows of calls on a new object. A row is a call and what is due:
 * "get 0 5 = 6", "get 0 9 ! NoSuchElementException", or "set 0 5 6" for what must just not throw.
 */
final class Script {
    private static int wrong = 0;
    private static int rows = 0;

    private Script() {
    }

    static void run(String name, int life, String text) {
        TabletCommits object = new TabletCommits(life);
        for (String line : text.split("\n")) {
            String row = line.replaceAll("//.*", "").trim();
            if (!row.isEmpty()) {
                runRow(name, object, row);
            }
        }
    }

    static void due(String what, Object got, Object want) {
        rows++;
        if (!want.equals(got)) {
            wrong++;
            System.out.println(what + " answered " + got + ", due is " + want);
        }
    }

    /** The answer as a text: a number (a boolean counts 1 or 0), "ok" of a void, or "! Exception". */
    static String call(TabletCommits object, String... words) {
        Method method = methodNamed(words[0]);
        Class<?>[] types = method.getParameterTypes();
        Object[] arguments = new Object[types.length];
        for (int i = 0; i < types.length; i++) {
            arguments[i] = types[i] == boolean.class ? (Object) Boolean.valueOf(words[i + 1]) : Integer.valueOf(words[i + 1]);
        }
        try {
            Object answer = method.invoke(object, arguments);
            if (answer instanceof Boolean) {
                return (Boolean) answer ? "1" : "0";
            }
            return answer == null ? "ok" : answer.toString();
        } catch (InvocationTargetException e) {
            return "! " + e.getCause().getClass().getSimpleName();
        } catch (IllegalAccessException e) {
            throw new IllegalStateException(e);
        }
    }

    static void end() {
        System.out.println(wrong == 0 ? rows + " answers are as due" : wrong + " answers are not as due");
        if (wrong != 0) {
            System.exit(1);
        }
    }

    private static void runRow(String name, TabletCommits object, String row) {
        String[] words = row.split(" +");
        int mark = Math.max(Arrays.asList(words).indexOf("="), Arrays.asList(words).indexOf("!"));
        String[] call = mark < 0 ? words : Arrays.copyOf(words, mark);
        if (call.length != methodNamed(call[0]).getParameterCount() + 1) {
            throw new IllegalArgumentException("a row with the wrong number of arguments: " + row);
        }
        String got = call(object, call);
        if (mark < 0) {
            due(name + ": " + row, got.startsWith("!") ? got : "no exception", "no exception");
        } else {
            String want = words[mark].equals("=") ? words[mark + 1] : "! " + words[mark + 1];
            due(name + ": " + String.join(" ", call), got, want);
        }
    }

    private static Method methodNamed(String name) {
        for (Method method : TabletCommits.class.getDeclaredMethods()) {
            if (method.getName().equals(name) && java.lang.reflect.Modifier.isPublic(method.getModifiers())) {
                return method;
            }
        }
        throw new IllegalArgumentException("no method " + name);
    }
}
