import java.util.List;
import java.util.Random;

/**
 * Two objects with the same calls behind them, one of which was given one call more. If that call changed nothing,
 * they look alike and answer alike, whatever is asked of them further on.
 */
final class Twins {
    private static final int FUTURES = 8;
    private static final int CALLS = 200;

    // A failure that was set, and a tablet that is down, would be wiped out by these.
    private static final String[] QUIET = {
        "begin c", "begin c", "set c l v", "set c l v", "erase c l", "get c l", "step c", "step c", "step c", "step c",
        "step c", "step c", "clear l", "tick n", "kill c", "sweep w",
    };
    private static final String[] ROUGH = {
        "begin c", "begin c", "set c l v", "set c l v", "erase c l", "get c l", "step c", "step c", "step c", "step c",
        "step c", "step c", "clear l", "tick n", "kill c", "sweep w", "crash t", "recover t", "recover t", "recover t",
        "fail t n b", "failOracle",
    };

    private final TabletCommits plain;
    private final TabletCommits touched;
    private final Random random;

    private Twins(int life, List<String[]> before, int seed) {
        plain = new TabletCommits(life);
        touched = new TabletCommits(life);
        for (String[] call : before) {
            Script.call(plain, call);
            Script.call(touched, call);
        }
        random = new Random(seed);
    }

    /** What the call changes, as far as a number of random futures shows it, or "nothing". */
    static String difference(int life, List<String[]> before, String[] call) {
        for (int seed = 0; seed < FUTURES; seed++) {
            Twins twins = new Twins(life, before, seed);
            Script.call(twins.touched, call);
            String difference = twins.firstDifference(seed % 2 == 0 ? QUIET : ROUGH);
            if (difference != null) {
                return difference;
            }
        }
        return "nothing";
    }

    private String firstDifference(String[] calls) {
        String seen = firstSeenDifference();
        for (int i = 0; i < CALLS && seen == null; i++) {
            String[] words = calls[random.nextInt(calls.length)].split(" ");
            for (int w = 1; w < words.length; w++) {
                words[w] = argument(words[w].charAt(0));
            }
            seen = differenceOf(words);
        }
        return seen == null ? firstSeenDifference() : seen;
    }

    private String argument(char kind) {
        switch (kind) {
            case 'b':
                return String.valueOf(random.nextBoolean());
            case 'c':
                return String.valueOf(random.nextInt(4));
            case 't':
                return String.valueOf(random.nextInt(3));
            case 'l':
                return String.valueOf(random.nextInt(12));
            case 'w':
                return String.valueOf(plain.oracle(0) - random.nextInt(6));
            default:
                return String.valueOf(random.nextInt(5));
        }
    }

    private String differenceOf(String... call) {
        String due = Script.call(plain, call);
        String got = Script.call(touched, call);
        return got.equals(due) ? null : String.join(" ", call) + " answers " + got + " and not " + due;
    }

    private String firstSeenDifference() {
        String seen = null;
        for (int i = 0; i < 24 && seen == null; i++) {
            seen = differenceOf("transaction", text(i / 6), text(i % 6));
        }
        for (int i = 0; i < 9 && seen == null; i++) {
            seen = differenceOf("tablet", text(i / 3), text(i % 3));
        }
        for (int what = 0; what < 3 && seen == null; what++) {
            seen = differenceOf("oracle", text(what));
        }
        for (int cell = 0; cell < 12 && seen == null; cell++) {
            seen = firstDifferenceAt(cell);
        }
        return seen;
    }

    private String firstDifferenceAt(int cell) {
        String seen = differenceOf("lock", text(cell), "0");
        for (int what = 1; what < 6 && seen == null && plain.lock(cell, 0) != -1; what++) {
            seen = differenceOf("lock", text(cell), text(what));
        }
        for (int k = 0; k < 64 && seen == null; k++) {
            seen = differenceOf("record", text(cell), text(k), "0");
            if (plain.record(cell, k, 0) == -1) {
                break;
            }
            for (int what = 1; what < 4 && seen == null; what++) {
                seen = differenceOf("record", text(cell), text(k), text(what));
            }
        }
        return seen;
    }

    private static String text(int number) {
        return String.valueOf(number);
    }
}
