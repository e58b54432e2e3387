import java.util.ArrayList;
import java.util.HashMap;
import java.util.List;
import java.util.Map;
import java.util.NoSuchElementException;
import java.util.TreeMap;

/**
 * The document's words taken as they stand, without thrift: each tablet has an image and a log of entries, and what
 * it holds is found by playing the log over a copy of the image. Held apart from the class's own way on purpose.
 */
final class Model {
    record Lock(int start, int primary, int client, int tick, boolean erased, int value) {
    }

    record Rec(int at, int start, int kind, int value) {
    }

    record Entry(String kind, int cell, Lock lock, int start, int time) {
    }

    /** Held or hindered. */
    static final class Stuck extends Exception {
        private static final long serialVersionUID = 1L;
    }

    static final class Image {
        final Map<Integer, Lock> locks = new HashMap<>();
        final Map<Integer, List<Rec>> recs = new HashMap<>();
        int watermark = 0;

        Image copy() {
            Image copy = new Image();
            copy.locks.putAll(locks);
            recs.forEach((cell, list) -> copy.recs.put(cell, new ArrayList<>(list)));
            copy.watermark = watermark;
            return copy;
        }

        List<Rec> of(int cell) {
            return recs.computeIfAbsent(cell, c -> new ArrayList<>());
        }

        void play(Entry e) {
            switch (e.kind) {
                case "LOCK" -> locks.put(e.cell, e.lock);
                case "DONE" -> {
                    Lock lock = locks.remove(e.cell);
                    of(e.cell).add(new Rec(e.time, e.start, lock.erased ? 2 : 1, lock.value));
                }
                case "VOID" -> {
                    if (locks.containsKey(e.cell) && locks.get(e.cell).start == e.start) {
                        locks.remove(e.cell);
                    }
                    of(e.cell).add(new Rec(e.start, e.start, 3, 0));
                }
                default -> {
                    watermark = e.time;
                    recs.values().forEach(list -> forget(list, e.time));
                }
            }
        }

        private static void forget(List<Rec> list, int w) {
            list.removeIf(r -> r.kind == 3 && r.at < w);
            int last = list.stream().filter(r -> r.kind != 3 && r.at < w).mapToInt(Rec::at).max().orElse(0);
            list.removeIf(r -> r.kind != 3 && r.at < w && (r.at != last || r.kind == 2));
        }
    }

    static final class Tab {
        Image image = new Image();
        final List<Entry> log = new ArrayList<>();
        private Image played = null;
        boolean up = true;
        int all = 0;
        int failure = 0;
        boolean whole = false;

        Image now() {
            if (played == null) {
                played = image.copy();
                log.forEach(played::play);
            }
            return played;
        }

        boolean write(Entry e) {
            if (log.size() == 8) {
                image = now();
                log.clear();
            }
            played = null;
            all++;
            failure--;
            boolean fails = failure == 0;
            if (!fails || whole) {
                log.add(e);
            }
            up = up && !fails;
            return !fails || whole;
        }
    }

    static final class Txn {
        int start;
        int commit = 0;
        boolean committing = false;
        boolean decided = false;
        final TreeMap<Integer, Integer> puts = new TreeMap<>();
        final List<Integer> prewritten = new ArrayList<>();
        final List<Integer> followed = new ArrayList<>();
    }

    final int life;
    int next = 1;
    int limit = 0;
    int ticks = 0;
    final Tab[] tabs = {new Tab(), new Tab(), new Tab()};
    final Txn[] txns = new Txn[4];

    Model(int life) {
        this.life = life < 1 ? 1 : life > 20 ? 20 : life;
    }

    private Tab tab(int cell) {
        return tabs[cell / 4];
    }

    private int time() {
        if (next > limit) {
            limit = next + 7;
        }
        return next++;
    }

    private void write(Entry e) throws Stuck {
        tab(e.cell).write(e);
        if (!tab(e.cell).up) {
            throw new Stuck();
        }
    }

    private Lock lockOf(int cell) {
        return tab(cell).now().locks.get(cell);
    }

    private boolean hasLock(int cell, int start) {
        return lockOf(cell) != null && lockOf(cell).start == start;
    }

    private boolean loose(Lock lock) {
        Txn owner = txns[lock.client];
        return owner == null || owner.start != lock.start || ticks - lock.tick >= life;
    }

    private Rec committed(int cell, int start) {
        return tab(cell).now().of(cell).stream().filter(r -> r.kind != 3 && r.start == start).findFirst().orElse(null);
    }

    private boolean overtaken(int cell, int start) {
        return tab(cell).now().of(cell).stream().anyMatch(r -> r.kind == 3 ? r.start == start : r.at > start);
    }

    private String clearing(int cell) throws Stuck {
        Lock lock = lockOf(cell);
        int s = lock.start;
        int p = lock.primary;
        if (!tab(p).up) {
            throw new Stuck();
        }
        if (committed(p, s) != null) {
            write(new Entry("DONE", cell, null, s, committed(p, s).at));
            return "DONE";
        }
        if (hasLock(p, s)) {
            if (!loose(lockOf(p))) {
                throw new Stuck();
            }
            write(new Entry("VOID", p, null, s, 0));
            if (p != cell) {
                write(new Entry("VOID", cell, null, s, 0));
            }
            return "VOID";
        }
        write(new Entry("VOID", cell, null, s, 0));
        return "VOID";
    }

    int begin(int c) {
        if (c < 0 || c > 3) {
            throw new IllegalArgumentException();
        }
        if (txns[c] != null) {
            throw new IllegalStateException();
        }
        txns[c] = new Txn();
        txns[c].start = time();
        return txns[c].start;
    }

    private Txn reading(int c, int cell) {
        if (c < 0 || c > 3 || cell < 0 || cell > 11) {
            throw new IllegalArgumentException();
        }
        if (txns[c] == null || txns[c].committing) {
            throw new IllegalStateException();
        }
        return txns[c];
    }

    int get(int c, int cell) {
        Txn txn = reading(c, cell);
        if (txn.puts.containsKey(cell)) {
            if (txn.puts.get(cell) == null) {
                throw new NoSuchElementException();
            }
            return txn.puts.get(cell);
        }
        if (!tab(cell).up) {
            throw new IllegalStateException();
        }
        if (tab(cell).now().watermark > txn.start) {
            throw new UnsupportedOperationException();
        }
        if (lockOf(cell) != null && lockOf(cell).start < txn.start) {
            try {
                clearing(cell);
            } catch (Stuck e) {
                throw new IllegalStateException();
            }
        }
        Rec best = null;
        for (Rec r : tab(cell).now().of(cell)) {
            if (r.kind != 3 && r.at < txn.start && (best == null || r.at > best.at)) {
                best = r;
            }
        }
        if (best == null || best.kind == 2) {
            throw new NoSuchElementException();
        }
        return best.value;
    }

    void set(int c, int cell, int v) {
        reading(c, cell).puts.put(cell, v);
    }

    void erase(int c, int cell) {
        reading(c, cell).puts.put(cell, null);
    }

    int step(int c) {
        if (c < 0 || c > 3) {
            throw new IllegalArgumentException();
        }
        if (txns[c] == null) {
            throw new NoSuchElementException();
        }
        txns[c].committing = true;
        try {
            int did = stepOf(c, txns[c]);
            if (did == 0 || did == 4 || did == 6 || did == 7) {
                txns[c] = null;
            }
            return did;
        } catch (Stuck e) {
            throw new IllegalStateException();
        }
    }

    private int stepOf(int c, Txn txn) throws Stuck {
        if (txn.puts.isEmpty()) {
            return 7;
        }
        int primary = txn.puts.firstKey();
        for (int cell : txn.puts.keySet()) {
            if (!txn.prewritten.contains(cell)) {
                return prewrite(c, txn, cell);
            }
        }
        if (txn.commit == 0) {
            txn.commit = time();
            return 2;
        }
        if (!txn.decided) {
            if (!tab(primary).up) {
                throw new Stuck();
            }
            if (committed(primary, txn.start) == null) {
                if (!hasLock(primary, txn.start)) {
                    return 0;
                }
                write(new Entry("DONE", primary, null, txn.start, txn.commit));
            }
            txn.decided = true;
            txn.followed.add(primary);
            return txn.puts.size() == 1 ? 4 : 3;
        }
        for (int cell : txn.puts.keySet()) {
            if (!txn.followed.contains(cell)) {
                if (!tab(cell).up) {
                    throw new Stuck();
                }
                if (hasLock(cell, txn.start)) {
                    write(new Entry("DONE", cell, null, txn.start, txn.commit));
                }
                txn.followed.add(cell);
                return txn.followed.size() == txn.puts.size() ? 6 : 5;
            }
        }
        throw new AssertionError("nothing is left to be done");
    }

    private int prewrite(int c, Txn txn, int cell) throws Stuck {
        if (!tab(cell).up) {
            throw new Stuck();
        }
        if (!hasLock(cell, txn.start)) {
            if (tab(cell).now().watermark > txn.start || overtaken(cell, txn.start)) {
                return 0;
            }
            if (lockOf(cell) != null) {
                clearing(cell);
                if (overtaken(cell, txn.start)) {
                    return 0;
                }
            }
            Integer v = txn.puts.get(cell);
            Lock lock = new Lock(txn.start, txn.puts.firstKey(), c, ticks, v == null, v == null ? 0 : v);
            write(new Entry("LOCK", cell, lock, 0, 0));
        }
        txn.prewritten.add(cell);
        return 1;
    }

    boolean kill(int c) {
        if (c < 0 || c > 3 || txns[c] == null) {
            return false;
        }
        txns[c] = null;
        return true;
    }

    int clear(int cell) {
        if (cell < 0 || cell > 11) {
            throw new IllegalArgumentException();
        }
        if (!tab(cell).up) {
            throw new IllegalStateException();
        }
        if (lockOf(cell) == null) {
            return 0;
        }
        try {
            return clearing(cell).equals("DONE") ? 1 : 2;
        } catch (Stuck e) {
            throw new IllegalStateException();
        }
    }

    int tick(int n) {
        if (n < 0 || n > 50) {
            return -1;
        }
        ticks += n;
        return ticks;
    }

    boolean crash(int t) {
        if (t < 0 || t > 2 || !tabs[t].up) {
            return false;
        }
        tabs[t].up = false;
        return true;
    }

    boolean recover(int t) {
        if (t < 0 || t > 2 || tabs[t].up) {
            return false;
        }
        tabs[t].up = true;
        tabs[t].failure = 0;
        return true;
    }

    boolean fail(int t, int k, boolean whole) {
        if (t < 0 || t > 2 || k < 0 || k > 20) {
            return false;
        }
        tabs[t].failure = k;
        tabs[t].whole = whole;
        return true;
    }

    int failOracle() {
        next = limit + 1;
        return next;
    }

    int sweep(int w) {
        if (w < 1 || w > next) {
            return -1;
        }
        for (Tab tab : tabs) {
            if (!tab.up || w <= tab.now().watermark || tab.now().locks.values().stream().anyMatch(l -> l.start < w)) {
                return -1;
            }
        }
        for (Txn txn : txns) {
            if (txn != null && txn.committing && txn.start < w) {
                return -1;
            }
        }
        int there = 0;
        for (Tab tab : tabs) {
            there += tab.write(new Entry("SWEEP", -1, null, 0, w)) ? 1 : 0;
            if (!tab.up) {
                return there;
            }
        }
        return there;
    }

    int transaction(int c, int what) {
        if (c < 0 || c > 3 || what < 0 || what > 5) {
            return -1;
        }
        Txn txn = txns[c];
        if (txn == null) {
            return 0;
        }
        return switch (what) {
            case 0 -> txn.committing ? 2 : 1;
            case 1 -> txn.start;
            case 2 -> txn.commit;
            case 3 -> txn.puts.keySet().stream().mapToInt(cell -> 1 << cell).sum();
            case 4 -> txn.prewritten.stream().mapToInt(cell -> 1 << cell).sum();
            default -> txn.decided ? 1 : 0;
        };
    }

    int lock(int cell, int what) {
        if (cell < 0 || cell > 11 || !tab(cell).up || lockOf(cell) == null) {
            return -1;
        }
        Lock lock = lockOf(cell);
        return switch (what) {
            case 0 -> lock.start;
            case 1 -> lock.primary;
            case 2 -> lock.client;
            case 3 -> lock.tick;
            case 4 -> loose(lock) ? 1 : 0;
            case 5 -> lock.value;
            default -> -1;
        };
    }

    int record(int cell, int k, int what) {
        if (cell < 0 || cell > 11 || k < 0 || !tab(cell).up || k >= tab(cell).now().of(cell).size()) {
            return -1;
        }
        List<Rec> sorted = new ArrayList<>(tab(cell).now().of(cell));
        sorted.sort((a, b) -> b.at - a.at);
        Rec rec = sorted.get(k);
        return switch (what) {
            case 0 -> rec.at;
            case 1 -> rec.start;
            case 2 -> rec.kind;
            case 3 -> rec.value;
            default -> -1;
        };
    }

    int tablet(int t, int what) {
        if (t < 0 || t > 2) {
            return -1;
        }
        return switch (what) {
            case 0 -> tabs[t].log.size();
            case 1 -> tabs[t].up ? tabs[t].now().watermark : -1;
            case 2 -> tabs[t].all;
            default -> -1;
        };
    }

    int oracle(int what) {
        return what == 0 ? next : what == 1 ? limit : what == 2 ? ticks : -1;
    }
}
