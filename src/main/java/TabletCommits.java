import java.util.NoSuchElementException;

/**
 * Transactions over three tablets of cells that may fail in the middle of a write: reads as of the
 * time of the beginning, locks on what is written, and one cell, the primary, that decides for all.
 */
public final class TabletCommits {
    public static final int NONE = -1;

    private static final int CELLS = 12;
    private static final int CELLS_OF_A_TABLET = 4;
    private static final int TABLETS = 3;
    private static final int CLIENTS = 4;
    private static final int LOG_SIZE = 8;
    private static final int TIMES_AHEAD = 7;
    private static final int LONGEST_LIFE = 20;
    private static final int MOST_TICKS = 50;
    private static final int FARTHEST_FAILURE = 20;

    // A record uses up a lock and a lock takes a step, so the document's 512 calls never fill a cell.
    private static final int MOST_RECORDS = 512;

    private static final int PUT = 1;
    private static final int ERASED = 2;
    private static final int VOID = 3;

    private static final int CONFLICT = 0;
    private static final int PREWRITTEN = 1;
    private static final int TIMED = 2;
    private static final int DECIDED = 3;
    private static final int DECIDED_AND_ENDED = 4;
    private static final int FOLLOWED = 5;
    private static final int FOLLOWED_AND_ENDED = 6;
    private static final int ENDED_WITHOUT_WRITES = 7;

    private static final int NO_LOCK = 0;
    private static final int CLEARED_BY_DONE = 1;
    private static final int CLEARED_BY_VOID = 2;

    // Held or hindered, of a step or of a clearing: all callers answer both in the same way.
    private static final int STUCK = -2;

    private final int life;
    private final Oracle times;
    private final Tablet[] tablets;
    private final Cell[] cells;
    private final Transaction[] transactions;
    private int now;

    public TabletCommits(int life) {
        this.life = Math.max(1, Math.min(LONGEST_LIFE, life));
        times = new Oracle();
        tablets = new Tablet[TABLETS];
        for (int t = 0; t < TABLETS; t++) {
            tablets[t] = new Tablet();
        }
        cells = new Cell[CELLS];
        for (int i = 0; i < CELLS; i++) {
            cells[i] = new Cell(tablets[i / CELLS_OF_A_TABLET]);
        }
        transactions = new Transaction[CLIENTS];
        for (int c = 0; c < CLIENTS; c++) {
            transactions[c] = new Transaction(c);
        }
    }

    public int begin(int c) throws IllegalArgumentException, IllegalStateException {
        if (!isClient(c)) {
            throw new IllegalArgumentException("no such client");
        }
        Transaction mine = transactions[c];
        if (mine.open) {
            throw new IllegalStateException("a transaction is open");
        }
        mine.startAt(times.handOut());
        return mine.start;
    }

    public int get(int c, int cell)
            throws IllegalArgumentException, IllegalStateException, NoSuchElementException, UnsupportedOperationException {
        Transaction mine = readingTransaction(c, cell);
        if (mine.writes(cell)) {
            return mine.ownValue(cell);
        }
        Cell source = cells[cell];
        if (!source.home.up) {
            throw new IllegalStateException("the tablet is down");
        }
        if (source.home.watermark > mine.start) {
            throw new UnsupportedOperationException("the records of that time are swept");
        }
        if (source.isLockedBefore(mine.start) && clearUp(source) == STUCK) {
            throw new IllegalStateException("held or hindered");
        }
        Version seen = source.lastWrittenBefore(mine.start);
        if (seen == null || seen.kind == ERASED) {
            throw new NoSuchElementException("no value");
        }
        return seen.value;
    }

    public void set(int c, int cell, int v) throws IllegalArgumentException, IllegalStateException {
        readingTransaction(c, cell).willPut(cell, v);
    }

    public void erase(int c, int cell) throws IllegalArgumentException, IllegalStateException {
        readingTransaction(c, cell).willErase(cell);
    }

    public int step(int c) throws IllegalArgumentException, NoSuchElementException, IllegalStateException {
        if (!isClient(c)) {
            throw new IllegalArgumentException("no such client");
        }
        Transaction mine = transactions[c];
        if (!mine.open) {
            throw new NoSuchElementException("no transaction is open");
        }
        mine.committing = true;
        int did = advance(mine);
        if (did == STUCK) {
            throw new IllegalStateException("held or hindered");
        }
        return did;
    }

    public boolean kill(int c) {
        if (!isClient(c) || !transactions[c].open) {
            return false;
        }
        transactions[c].end();
        return true;
    }

    public int clear(int cell) throws IllegalArgumentException, IllegalStateException {
        if (!isCell(cell)) {
            throw new IllegalArgumentException("no such cell");
        }
        if (!cells[cell].home.up) {
            throw new IllegalStateException("the tablet is down");
        }
        int did = clearUp(cells[cell]);
        if (did == STUCK) {
            throw new IllegalStateException("held or hindered");
        }
        return did;
    }

    public int tick(int n) {
        if (n < 0 || n > MOST_TICKS) {
            return NONE;
        }
        now += n;
        return now;
    }

    public boolean crash(int t) {
        if (!isTablet(t) || !tablets[t].up) {
            return false;
        }
        tablets[t].up = false;
        return true;
    }

    public boolean recover(int t) {
        if (!isTablet(t) || tablets[t].up) {
            return false;
        }
        tablets[t].comeUp();
        return true;
    }

    public boolean fail(int t, int k, boolean whole) {
        if (!isTablet(t) || k < 0 || k > FARTHEST_FAILURE) {
            return false;
        }
        tablets[t].failAt(k, whole);
        return true;
    }

    public int failOracle() {
        return times.restart();
    }

    public int sweep(int w) {
        if (!maySweep(w)) {
            return NONE;
        }
        int inForce = 0;
        for (int t = 0; t < TABLETS; t++) {
            if (writeSweep(t, w)) {
                inForce++;
            }
            if (!tablets[t].up) {
                break;
            }
        }
        return inForce;
    }

    public int transaction(int c, int what) {
        return isClient(c) ? transactions[c].answer(what) : NONE;
    }

    public int lock(int cell, int what) {
        if (!isCell(cell) || !cells[cell].home.up) {
            return NONE;
        }
        Lock lock = cells[cell].lock;
        if (lock == null) {
            return NONE;
        }
        return what == 4 ? asNumber(isLoose(lock)) : lock.answer(what);
    }

    public int record(int cell, int k, int what) {
        if (!isCell(cell) || !cells[cell].home.up) {
            return NONE;
        }
        Version found = cells[cell].versionAt(k);
        return found == null ? NONE : found.answer(what);
    }

    public int tablet(int t, int what) {
        return isTablet(t) ? tablets[t].answer(what) : NONE;
    }

    public int oracle(int what) {
        switch (what) {
            case 0:
                return times.next;
            case 1:
                return times.limit;
            case 2:
                return now;
            default:
                return NONE;
        }
    }

    private static boolean isClient(int c) {
        return c >= 0 && c < CLIENTS;
    }

    private static boolean isCell(int cell) {
        return cell >= 0 && cell < CELLS;
    }

    private static boolean isTablet(int t) {
        return t >= 0 && t < TABLETS;
    }

    private static int asNumber(boolean yes) {
        return yes ? 1 : 0;
    }

    private Transaction readingTransaction(int c, int cell) {
        if (!isClient(c) || !isCell(cell)) {
            throw new IllegalArgumentException("no such client or cell");
        }
        Transaction mine = transactions[c];
        if (!mine.open || mine.committing) {
            throw new IllegalStateException("no transaction is reading");
        }
        return mine;
    }

    private int advance(Transaction mine) {
        if (mine.written == 0) {
            mine.end();
            return ENDED_WITHOUT_WRITES;
        }
        if (mine.prewritten != mine.written) {
            return prewrite(mine);
        }
        if (mine.commitTime == 0) {
            mine.commitTime = times.handOut();
            return TIMED;
        }
        return mine.decided ? follow(mine) : decide(mine);
    }

    private int prewrite(Transaction mine) {
        int index = leastOf(mine.written & ~mine.prewritten);
        if (!cells[index].home.up) {
            return STUCK;
        }
        if (!cells[index].isLockedBy(mine.start)) {
            int did = takeLock(mine, index);
            if (did != PREWRITTEN) {
                return did;
            }
        }
        mine.prewritten |= 1 << index;
        return PREWRITTEN;
    }

    private int takeLock(Transaction mine, int index) {
        Cell cell = cells[index];
        if (cell.home.watermark > mine.start || cell.overtakes(mine.start)) {
            return endByConflict(mine);
        }
        if (clearUp(cell) == STUCK) {
            return STUCK;
        }
        // The clearing may have brought a record from after the start.
        if (cell.overtakes(mine.start)) {
            return endByConflict(mine);
        }
        return cell.writeLock(mine.lockFor(index, now)) ? PREWRITTEN : STUCK;
    }

    private static int endByConflict(Transaction mine) {
        mine.end();
        return CONFLICT;
    }

    private int decide(Transaction mine) {
        Cell primary = cells[mine.primary()];
        if (!primary.home.up) {
            return STUCK;
        }
        if (primary.versionWrittenBy(mine.start) == null) {
            if (!primary.isLockedBy(mine.start)) {
                return endByConflict(mine);
            }
            if (!primary.writeDone(mine.commitTime)) {
                return STUCK;
            }
        }
        mine.decided = true;
        mine.followed = 1 << mine.primary();
        return mine.endIfAllFollowed() ? DECIDED_AND_ENDED : DECIDED;
    }

    private int follow(Transaction mine) {
        int index = leastOf(mine.written & ~mine.followed);
        Cell cell = cells[index];
        if (!cell.home.up) {
            return STUCK;
        }
        if (cell.isLockedBy(mine.start) && !cell.writeDone(mine.commitTime)) {
            return STUCK;
        }
        mine.followed |= 1 << index;
        return mine.endIfAllFollowed() ? FOLLOWED_AND_ENDED : FOLLOWED;
    }

    /** The cell's own tablet must be up. */
    private int clearUp(Cell cell) {
        Lock lock = cell.lock;
        if (lock == null) {
            return NO_LOCK;
        }
        Cell primary = cells[lock.primary];
        if (!primary.home.up) {
            return STUCK;
        }
        Version decision = primary.versionWrittenBy(lock.start);
        if (decision != null) {
            return cell.writeDone(decision.at) ? CLEARED_BY_DONE : STUCK;
        }
        if (primary.isLockedBy(lock.start)) {
            if (!isLoose(primary.lock) || !primary.writeVoid(lock.start)) {
                return STUCK;
            }
            if (primary == cell) {
                return CLEARED_BY_VOID;
            }
        }
        return cell.writeVoid(lock.start) ? CLEARED_BY_VOID : STUCK;
    }

    private boolean isLoose(Lock lock) {
        Transaction owner = transactions[lock.client];
        return !owner.open || owner.start != lock.start || now - lock.tick >= life;
    }

    private boolean maySweep(int w) {
        if (w < 1 || w > times.next) {
            return false;
        }
        for (Tablet tablet : tablets) {
            if (!tablet.up || w <= tablet.watermark) {
                return false;
            }
        }
        for (Cell cell : cells) {
            if (cell.isLockedBefore(w)) {
                return false;
            }
        }
        for (Transaction each : transactions) {
            if (each.open && each.committing && each.start < w) {
                return false;
            }
        }
        return true;
    }

    /** Answers whether the entry is in force, which it may be although the tablet went down. */
    private boolean writeSweep(int t, int w) {
        Tablet tablet = tablets[t];
        if (!tablet.putsIntoLog()) {
            return false;
        }
        tablet.watermark = w;
        for (Cell cell : cells) {
            if (cell.home == tablet) {
                cell.forgetBefore(w);
            }
        }
        return true;
    }

    /** The least cell of a set; the last one where a set holds none, so that it is a cell always. */
    private static int leastOf(int set) {
        int cell = 0;
        while (cell < CELLS - 1 && (set >> cell & 1) == 0) {
            cell++;
        }
        return cell;
    }

    private static final class Oracle {
        private int next = 1;
        private int limit = 0;

        int handOut() {
            if (next > limit) {
                limit = next + TIMES_AHEAD;
            }
            int time = next;
            next++;
            return time;
        }

        int restart() {
            next = limit + 1;
            return next;
        }
    }

    /** The log itself is a count: what is in it is in force, so the cells hold it already. */
    private static final class Tablet {
        private boolean up = true;
        private int watermark = 0;
        private int logged = 0;
        private int entries = 0;
        private int failsIn = 0;
        private boolean failsWhole = false;

        /** Answers whether the entry is in the log; whether its writer may know of it, up tells. */
        boolean putsIntoLog() {
            entries++;
            if (logged >= LOG_SIZE) {
                logged = 0;
            }
            boolean fails = failsIn == 1;
            if (failsIn > 0) {
                failsIn--;
            }
            if (fails) {
                up = false;
            }
            boolean isThere = !fails || failsWhole;
            if (isThere) {
                logged++;
            }
            return isThere;
        }

        void failAt(int k, boolean whole) {
            failsIn = k;
            failsWhole = whole;
        }

        void comeUp() {
            up = true;
            failsIn = 0;
        }

        int answer(int what) {
            switch (what) {
                case 0:
                    return logged;
                case 1:
                    return up ? watermark : NONE;
                case 2:
                    return entries;
                default:
                    return NONE;
            }
        }
    }

    /** A cell with its lock, if one is left on it, and its records from the latest time down. */
    private static final class Cell {
        private final Tablet home;
        private Lock lock = null;
        private Version latest = null;
        private int kept = 0;

        Cell(Tablet home) {
            this.home = home;
        }

        boolean isLockedBy(int start) {
            return lock != null && lock.start == start;
        }

        boolean isLockedBefore(int time) {
            return lock != null && lock.start < time;
        }

        // The three writes answer whether their writer knows that the entry is in force.

        boolean writeLock(Lock made) {
            if (home.putsIntoLog()) {
                lock = made;
            }
            return home.up;
        }

        boolean writeDone(int at) {
            if (home.putsIntoLog() && lock != null) {
                keep(new Version(at, lock.start, lock.erases ? ERASED : PUT, lock.value));
                lock = null;
            }
            return home.up;
        }

        boolean writeVoid(int start) {
            if (home.putsIntoLog()) {
                if (isLockedBy(start)) {
                    lock = null;
                }
                keep(new Version(start, start, VOID, 0));
            }
            return home.up;
        }

        boolean overtakes(int start) {
            for (Version v = latest; v != null; v = v.earlier) {
                if (v.kind == VOID ? v.start == start : v.at > start) {
                    return true;
                }
            }
            return false;
        }

        Version versionWrittenBy(int start) {
            for (Version v = latest; v != null; v = v.earlier) {
                if (v.kind != VOID && v.start == start) {
                    return v;
                }
            }
            return null;
        }

        Version lastWrittenBefore(int time) {
            for (Version v = latest; v != null; v = v.earlier) {
                if (v.kind != VOID && v.at < time) {
                    return v;
                }
            }
            return null;
        }

        Version versionAt(int k) {
            if (k < 0) {
                return null;
            }
            Version v = latest;
            for (int i = 0; i < k && v != null; i++) {
                v = v.earlier;
            }
            return v;
        }

        void forgetBefore(int w) {
            Version later = null;
            boolean hasLatestWritten = false;
            for (Version v = latest; v != null; v = v.earlier) {
                boolean goes = v.at < w && (v.kind != PUT || hasLatestWritten);
                if (v.at < w && v.kind != VOID) {
                    hasLatestWritten = true;
                }
                if (goes) {
                    removeBehind(later, v);
                } else {
                    later = v;
                }
            }
        }

        private void removeBehind(Version later, Version gone) {
            kept--;
            if (later == null) {
                latest = gone.earlier;
            } else {
                later.earlier = gone.earlier;
            }
        }

        /** VOIDs come at the times of their starts, so a new record need not be the latest. */
        private void keep(Version made) {
            if (kept >= MOST_RECORDS) {
                return;
            }
            Version later = null;
            Version earlier = latest;
            while (earlier != null && earlier.at > made.at) {
                later = earlier;
                earlier = earlier.earlier;
            }
            made.earlier = earlier;
            if (later == null) {
                latest = made;
            } else {
                later.earlier = made;
            }
            kept++;
        }
    }

    private static final class Lock {
        private final int start;
        private final int primary;
        private final int client;
        private final int tick;
        private final boolean erases;
        private final int value;

        Lock(int start, int primary, int client, int tick, boolean erases, int value) {
            this.start = start;
            this.primary = primary;
            this.client = client;
            this.tick = tick;
            this.erases = erases;
            this.value = value;
        }

        /** What = 4 is not answered here: whether a lock is loose is more than the lock knows. */
        int answer(int what) {
            switch (what) {
                case 0:
                    return start;
                case 1:
                    return primary;
                case 2:
                    return client;
                case 3:
                    return tick;
                case 5:
                    return value;
                default:
                    return NONE;
            }
        }
    }

    /** A record of a cell, with the next one down in time behind it. */
    private static final class Version {
        private final int at;
        private final int start;
        private final int kind;
        private final int value;
        private Version earlier = null;

        Version(int at, int start, int kind, int value) {
            this.at = at;
            this.start = start;
            this.kind = kind;
            this.value = value;
        }

        int answer(int what) {
            switch (what) {
                case 0:
                    return at;
                case 1:
                    return start;
                case 2:
                    return kind;
                case 3:
                    return value;
                default:
                    return NONE;
            }
        }
    }

    /** A client's transaction, used again for its next one; sets of cells are sums of 2^cell. */
    private static final class Transaction {
        private final int client;
        private final int[] values;
        private boolean open = false;
        private boolean committing = false;
        private int start = 0;
        private int commitTime = 0;
        private int written = 0;
        private int erased = 0;
        private int prewritten = 0;
        private int followed = 0;
        private boolean decided = false;

        Transaction(int client) {
            this.client = client;
            values = new int[CELLS];
        }

        void startAt(int time) {
            open = true;
            start = time;
        }

        /** Takes all back to nothing, for that is what is answered of a transaction that is not. */
        void end() {
            open = false;
            committing = false;
            start = 0;
            commitTime = 0;
            written = 0;
            erased = 0;
            prewritten = 0;
            followed = 0;
            decided = false;
        }

        boolean writes(int cell) {
            return (written >> cell & 1) == 1;
        }

        boolean erases(int cell) {
            return (erased >> cell & 1) == 1;
        }

        int ownValue(int cell) {
            if (erases(cell)) {
                throw new NoSuchElementException("erased by the transaction itself");
            }
            return values[cell];
        }

        void willPut(int cell, int v) {
            written |= 1 << cell;
            erased &= ~(1 << cell);
            values[cell] = v;
        }

        void willErase(int cell) {
            written |= 1 << cell;
            erased |= 1 << cell;
            values[cell] = 0;
        }

        int primary() {
            return leastOf(written);
        }

        Lock lockFor(int cell, int tick) {
            return new Lock(start, primary(), client, tick, erases(cell), values[cell]);
        }

        boolean endIfAllFollowed() {
            if (followed != written) {
                return false;
            }
            end();
            return true;
        }

        int answer(int what) {
            switch (what) {
                case 0:
                    return asNumber(open) + asNumber(committing);
                case 1:
                    return start;
                case 2:
                    return commitTime;
                case 3:
                    return written;
                case 4:
                    return prewritten;
                case 5:
                    return asNumber(decided);
                default:
                    return NONE;
            }
        }
    }
}
