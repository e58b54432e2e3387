import java.io.IOException;
import java.lang.reflect.Method;
import java.lang.reflect.Modifier;
import java.nio.file.Files;
import java.nio.file.Path;
import java.util.List;
import java.util.regex.Matcher;
import java.util.regex.Pattern;

/** The examples of README.md answer what is written beside them, and it tells of every public method. */
final class ReadmeTest {
    private static final Pattern MAKING = Pattern.compile("TabletCommits store = new TabletCommits\\((\\d+)\\);.*");
    private static final Pattern CALL = Pattern.compile("store\\.(\\w+)\\(([^)]*)\\);(?: *// (.*))?");
    private static final Pattern ANSWER = Pattern.compile("(-?\\d+|true|false|throws \\w+)(?::.*)?");

    private ReadmeTest() {
    }

    public static void main(String[] args) throws IOException {
        List<String> lines = Files.readAllLines(Path.of("README.md"));
        runExamples(lines);
        lookForMethods(String.join("\n", lines));
        Script.end();
    }

    private static void runExamples(List<String> lines) {
        TabletCommits store = null;
        int examples = 0;
        boolean inside = false;
        for (String line : lines) {
            if (line.startsWith("```")) {
                inside = line.equals("```java");
                continue;
            }
            if (!inside) {
                continue;
            }
            Matcher making = MAKING.matcher(line);
            if (making.matches()) {
                store = new TabletCommits(Integer.parseInt(making.group(1)));
                examples++;
            } else {
                runCall(store, line);
            }
        }
        Script.due("how many examples README.md has", examples, 2);
    }

    private static void runCall(TabletCommits store, String line) {
        Matcher call = CALL.matcher(line);
        if (!call.matches()) {
            Script.due("README.md: " + line, "no call", "a call");
            return;
        }
        String got = Script.call(store, (call.group(1) + ", " + call.group(2)).split(", *"));
        Script.due("README.md: " + line, got, writtenAnswer(call.group(3)));
    }

    /** As Script.call would tell it: a comment that begins with no answer stands at a call that has none. */
    private static String writtenAnswer(String comment) {
        Matcher answer = ANSWER.matcher(comment == null ? "" : comment);
        if (!answer.matches()) {
            return "ok";
        }
        String written = answer.group(1);
        return written.equals("true") ? "1" : written.equals("false") ? "0" : written.replace("throws ", "! ");
    }

    private static void lookForMethods(String text) {
        for (Method method : TabletCommits.class.getDeclaredMethods()) {
            if (Modifier.isPublic(method.getModifiers())) {
                Script.due("README.md tells of " + method.getName(), text.contains("`" + method.getName() + "("), true);
            }
        }
    }
}
