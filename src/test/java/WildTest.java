import java.util.Map;
import java.util.Random;
import java.util.Set;

/** Any arguments in any state, far beyond the 512 calls too: a call ends, and throws only what the document lists. */
final class WildTest {
    private static final String IAE = "IllegalArgumentException";
    private static final String ISE = "IllegalStateException";
    private static final String NSE = "NoSuchElementException";
    private static final String UOE = "UnsupportedOperationException";

    private static final Map<String, Set<String>> MAY_THROW = Map.of(
            "begin", Set.of(IAE, ISE),
            "get", Set.of(IAE, ISE, NSE, UOE),
            "set", Set.of(IAE, ISE),
            "erase", Set.of(IAE, ISE),
            "step", Set.of(IAE, NSE, ISE),
            "clear", Set.of(IAE, ISE));

    private static final String[] CALLS = {
        "begin c", "get c l", "set c l v", "set c l v", "erase c l", "step c", "step c", "step c", "step c", "kill c",
        "clear l", "tick n", "crash t", "recover t", "recover t", "fail t n b", "failOracle", "sweep w",
        "transaction c n", "lock l n", "record l n n", "tablet t n", "oracle n",
    };

    private WildTest() {
    }

    public static void main(String[] args) {
        for (int seed = 0; seed < 20; seed++) {
            runCalls(new Random(seed), new TabletCommits(seed % 7), 10_000);
        }
        fillOneCell();
        Script.end();
    }

    private static void runCalls(Random random, TabletCommits object, int calls) {
        for (int i = 0; i < calls; i++) {
            String[] words = CALLS[random.nextInt(CALLS.length)].split(" ");
            for (int w = 1; w < words.length; w++) {
                words[w] = argument(random, words[w].charAt(0), object);
            }
            String got = Script.call(object, words);
            boolean isAllowed = !got.startsWith("!") || MAY_THROW.getOrDefault(words[0], Set.of()).contains(got.substring(2));
            Script.due(String.join(" ", words) + " with " + got, isAllowed, true);
        }
    }

    private static String argument(Random random, char kind, TabletCommits object) {
        if (kind == 'b') {
            return String.valueOf(random.nextBoolean());
        }
        if (random.nextInt(30) == 0) {
            int[] far = {Integer.MIN_VALUE, -1, 3, 4, 12, 32, 64, 513, Integer.MAX_VALUE};
            return String.valueOf(random.nextInt(4) == 0 ? random.nextInt() : far[random.nextInt(far.length)]);
        }
        int most = kind == 'c' ? 4 : kind == 't' ? 3 : kind == 'l' ? 12 : kind == 'w' ? object.oracle(0) + 1 : 7;
        return String.valueOf(random.nextInt(Math.max(1, most)));
    }

    private static void fillOneCell() {
        TabletCommits object = new TabletCommits(1);
        for (int i = 0; i < 2000; i++) {
            object.begin(0);
            object.set(0, 0, i);
            object.step(0);
            object.step(0);
            Script.due("the last step of round " + i, object.step(0), 4);
        }
    }
}
