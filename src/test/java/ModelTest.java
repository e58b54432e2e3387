import java.util.Random;
import java.util.function.Supplier;

/** Random runs, from fixed seeds, of the class beside the model: every answer and all that can be looked at is the same. */
final class ModelTest {
    private static final int RUNS = 3000;
    private static final int CALLS = 400;
    private static final int MOST_SHOWN = 5;

    private final int seed;
    private final Random random;
    private final TabletCommits real;
    private final Model model;
    private final int cells;
    private final int trouble;
    private final StringBuilder story = new StringBuilder();

    private ModelTest(int seed) {
        this.seed = seed;
        random = new Random(seed);
        int life = random.nextInt(26) - 3;
        real = new TabletCommits(life);
        model = new Model(life);
        cells = 1 + random.nextInt(12);
        trouble = random.nextInt(4);
        story.append("new ").append(life).append('\n');
    }

    public static void main(String[] args) {
        int wrong = 0;
        int[] seen = new int[12];
        for (int seed = 0; seed < RUNS && wrong < MOST_SHOWN; seed++) {
            wrong += new ModelTest(seed).isSame(seen) ? 0 : 1;
        }
        for (int i = 0; i < 8 && wrong == 0; i++) {
            if (seen[i] == 0) {
                System.out.println("no run had a step that answers " + i + ": the runs are too tame");
                wrong++;
            }
        }
        System.out.println(wrong == 0 ? RUNS + " runs are as due" : wrong + " runs are not as due");
        if (wrong != 0) {
            System.exit(1);
        }
    }

    private boolean isSame(int[] seen) {
        for (int i = 0; i < CALLS; i++) {
            if (!isNextCallSame(seen) || i % 10 == 0 && !isLookSame()) {
                System.out.println("seed " + seed + "\n" + story);
                return false;
            }
        }
        return isLookSame();
    }

    private boolean isNextCallSame(int[] seen) {
        int c = client();
        int cell = cell();
        int kind = random.nextInt(100);
        if (kind < 12) {
            return isSame("begin " + c, () -> real.begin(c), () -> model.begin(c));
        }
        if (kind < 22) {
            return isSame("get " + c + " " + cell, () -> real.get(c, cell), () -> model.get(c, cell));
        }
        if (kind < 38) {
            int v = random.nextInt(1000) - 100;
            return isSame("set " + c + " " + cell + " " + v, () -> done(() -> real.set(c, cell, v)), () -> done(() -> model.set(c, cell, v)));
        }
        if (kind < 42) {
            return isSame("erase " + c + " " + cell, () -> done(() -> real.erase(c, cell)), () -> done(() -> model.erase(c, cell)));
        }
        if (kind < 78) {
            return isSame("step " + c, () -> counted(seen, real.step(c)), () -> model.step(c));
        }
        if (kind < 84) {
            return isSame("clear " + cell, () -> real.clear(cell), () -> model.clear(cell));
        }
        return isRareCallSame(c);
    }

    private boolean isRareCallSame(int c) {
        int t = random.nextInt(40) == 0 ? wild() : random.nextInt(3);
        int kind = random.nextInt(20);
        if (kind < 2) {
            return isSame("kill " + c, () -> real.kill(c), () -> model.kill(c));
        }
        if (kind < 5) {
            int n = random.nextInt(20) == 0 ? wild() : random.nextInt(6);
            return isSame("tick " + n, () -> real.tick(n), () -> model.tick(n));
        }
        if (kind < 6) {
            return isSame("failOracle", real::failOracle, model::failOracle);
        }
        if (kind < 10) {
            int w = random.nextInt(20) == 0 ? wild() : model.next - random.nextInt(12) + 1;
            return isSame("sweep " + w, () -> real.sweep(w), () -> model.sweep(w));
        }
        if (kind < 15) {
            return isSame("recover " + t, () -> real.recover(t), () -> model.recover(t));
        }
        if (random.nextInt(3) >= trouble) {
            return true;
        }
        if (kind < 16) {
            return isSame("crash " + t, () -> real.crash(t), () -> model.crash(t));
        }
        int k = random.nextInt(20) == 0 ? wild() : random.nextInt(6);
        boolean whole = random.nextBoolean();
        return isSame("fail " + t + " " + k + " " + whole, () -> real.fail(t, k, whole), () -> model.fail(t, k, whole));
    }

    private int client() {
        return random.nextInt(60) == 0 ? wild() : random.nextInt(4);
    }

    private int cell() {
        return random.nextInt(60) == 0 ? wild() : random.nextInt(cells) * 5 % 12;
    }

    private int wild() {
        return random.nextInt(70) - 10;
    }

    private static int counted(int[] seen, int answer) {
        if (answer >= 0 && answer < seen.length) {
            seen[answer]++;
        }
        return answer;
    }

    private static String done(Runnable call) {
        call.run();
        return "ok";
    }

    private boolean isLookSame() {
        for (int i = -1; i < 13; i++) {
            int it = i;
            for (int w = -1; w < 7; w++) {
                int what = w;
                if (!isSameLook("transaction", it, what, real.transaction(it, what), model.transaction(it, what))
                        || !isSameLook("lock", it, what, real.lock(it, what), model.lock(it, what))
                        || !isSameLook("tablet", it, what, real.tablet(it, what), model.tablet(it, what))
                        || !isSameLook("oracle", it, what, real.oracle(what), model.oracle(what))) {
                    return false;
                }
            }
            for (int k = -1; k < 60; k++) {
                for (int what = 0; what < 5; what++) {
                    if (!isSameLook("record " + k, it, what, real.record(it, k, what), model.record(it, k, what))) {
                        return false;
                    }
                }
                if (k >= 0 && model.record(it, k, 0) == -1) {
                    break;
                }
            }
        }
        return true;
    }

    private boolean isSameLook(String name, int it, int what, int got, int want) {
        if (got != want) {
            story.append(name + " " + it + " " + what + " answered " + got + ", due is " + want + "\n");
        }
        return got == want;
    }

    private boolean isSame(String call, Supplier<Object> mine, Supplier<Object> due) {
        String got = answer(mine);
        String want = answer(due);
        story.append(call).append(" : ").append(got).append(got.equals(want) ? "" : ", due is " + want).append('\n');
        return got.equals(want);
    }

    private static String answer(Supplier<Object> call) {
        try {
            return String.valueOf(call.get());
        } catch (RuntimeException e) {
            return "throws." + e.getClass().getSimpleName();
        }
    }
}
