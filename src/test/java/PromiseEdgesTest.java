/**
 * The boundary cases of promises 1 to 5 and 7 to 13, one test for each sentence, named by the promise and its words.
 * Promise 6 has StepEdgesTest, promises 14 to 19 have SweepAndLookEdgesTest.
 */
final class PromiseEdgesTest {
    private static final int[] FAR = {Integer.MIN_VALUE, Integer.MAX_VALUE};

    private PromiseEdgesTest() {
    }

    public static void main(String[] args) {
        newObject();
        begin();
        getRefuses();
        getOwnWrites();
        getTabletAndWatermark();
        getClears();
        getReads();
        setAndErase();
        kill();
        clearAnswers();
        clearRefuses();
        tick();
        crash();
        recover();
        failNumbers();
        failIsSet();
        failOracle();
        Script.end();
    }

    private static void promise(int number, String words, int life, String rows) {
        Script.sentence("Promise " + number, words, life, rows);
    }

    private static String commit(int cell, int v) {
        return "begin 0\n set 0 " + cell + " " + v + "\n step 0 = 1\n step 0 = 2\n step 0 = 4\n";
    }

    private static void newObject() {
        int[][] lives = {{Integer.MIN_VALUE, 1}, {-1, 1}, {0, 1}, {1, 1}, {2, 2}, {19, 19}, {20, 20}, {21, 20}, {Integer.MAX_VALUE, 20}};
        for (int[] life : lives) {
            promise(1, "A lock lives for life ticks; below 1 counts as 1, above 20 as 20", life[0], """
                    begin 0 = 1
                    set 0 3 7
                    step 0 = 1
                    tick %d
                    lock 3 4 = 0
                    ~ clear 3 ! IllegalStateException
                    tick 1
                    lock 3 4 = 1
                    clear 3 = 2
                    """.formatted(life[1] - 1));
        }
        StringBuilder rows = new StringBuilder();
        for (int cell = 0; cell < 12; cell++) {
            rows.append("lock " + cell + " 0 = -1\n record " + cell + " 0 0 = -1\n ~ clear " + cell + " = 0\n");
        }
        for (int t = 0; t < 3; t++) {
            rows.append("tablet " + t + " 0 = 0\n tablet " + t + " 1 = 0\n tablet " + t + " 2 = 0\n");
        }
        for (int c = 0; c < 4; c++) {
            for (int what = 0; what < 6; what++) {
                rows.append("transaction " + c + " " + what + " = 0\n");
            }
            rows.append("~ step " + c + " ! NoSuchElementException\n ~ kill " + c + " = 0\n");
        }
        promise(1, "All cells without locks and records, all logs empty, no transaction open", 5, rows.toString());
    }

    private static void begin() {
        promise(2, "its start, a time from the oracle", 4, """
                begin 2 = 1
                transaction 2 1 = 1
                oracle 0 = 2
                failOracle = 9
                begin 1 = 9
                transaction 1 1 = 9
                transaction 1 0 = 1
                """);
        promise(2, "IllegalArgumentException when there is no such client", 4, """
                ~ begin -1 ! IllegalArgumentException
                ~ begin 4 ! IllegalArgumentException
                ~ begin -2147483648 ! IllegalArgumentException
                ~ begin 2147483647 ! IllegalArgumentException
                begin 0 = 1
                begin 3 = 2
                ~ begin -1 ! IllegalArgumentException
                ~ begin 4 ! IllegalArgumentException
                """);
        promise(2, "else IllegalStateException when it has one that is open", 2, """
                begin 0 = 1
                ~ begin 0 ! IllegalStateException    // reading
                set 0 0 1
                set 0 4 1
                ~ begin 0 ! IllegalStateException
                step 0 = 1
                ~ begin 0 ! IllegalStateException    // committing
                step 0 = 1
                step 0 = 2
                ~ begin 0 ! IllegalStateException
                step 0 = 3
                ~ begin 0 ! IllegalStateException    // decided
                begin 1 = 3                          // another's does not matter
                step 0 = 6
                begin 0 = 4                          // ended
                kill 0 = 1
                begin 0 = 5                          // killed
                step 0 = 7
                begin 0 = 6
                set 0 4 1
                begin 2 = 7
                set 2 4 1
                step 2 = 1
                step 2 = 2
                step 2 = 4
                step 0 = 0
                begin 0 = 9                          // ended by a conflict
                """);
    }

    private static void getRefuses() {
        promise(3, "IllegalArgumentException when there is no such client or cell", 4, """
                ~ get -1 0 ! IllegalArgumentException
                ~ get 4 0 ! IllegalArgumentException
                ~ get 0 -1 ! IllegalArgumentException    // before it is asked for a transaction
                ~ get 0 12 ! IllegalArgumentException
                ~ get 4 12 ! IllegalArgumentException
                ~ get -2147483648 0 ! IllegalArgumentException
                ~ get 2147483647 0 ! IllegalArgumentException
                begin 0 = 1
                begin 3 = 2
                ~ get 0 -1 ! IllegalArgumentException
                ~ get 0 12 ! IllegalArgumentException
                ~ get 0 -2147483648 ! IllegalArgumentException
                ~ get 0 2147483647 ! IllegalArgumentException
                ~ get 3 0 ! NoSuchElementException
                ~ get 0 11 ! NoSuchElementException
                crash 0 = 1
                crash 2 = 1
                ~ get 0 -1 ! IllegalArgumentException
                ~ get 0 12 ! IllegalArgumentException
                """);
        promise(3, "IllegalStateException when it has no transaction that is reading", 4, """
                ~ get 0 0 ! IllegalStateException    // none is open
                begin 1 = 1
                ~ get 0 0 ! IllegalStateException
                begin 0 = 2
                set 0 0 1
                get 0 0 = 1
                step 0 = 1
                ~ get 0 0 ! IllegalStateException    // committing, even for what it writes itself
                ~ get 0 5 ! IllegalStateException
                kill 0 = 1
                ~ get 0 0 ! IllegalStateException
                """);
        promise(3, "IllegalStateException when it has no transaction that is reading", 4, """
                begin 0 = 1
                begin 1 = 2
                sweep 3 = 3
                set 0 4 1
                erase 0 5
                crash 1 = 1
                step 0 ! IllegalStateException
                recover 1 = 1
                ~ get 0 5 ! IllegalStateException    // before its erasure
                ~ get 0 8 ! IllegalStateException    // and before the watermark
                """);
    }

    private static void getOwnWrites() {
        promise(3, "If it writes the cell itself: that value, or NoSuchElementException when it erases it", 4, commit(4, 3) + """
                begin 0 = 3
                set 0 4 9
                ~ get 0 4 = 9
                erase 0 4
                ~ get 0 4 ! NoSuchElementException   // and not the 3 that is there
                set 0 4 0
                ~ get 0 4 = 0
                set 0 5 -2147483648
                ~ get 0 5 = -2147483648
                begin 1 = 4
                get 1 4 = 3                          // another does not read it
                """);
        promise(3, "If it writes the cell itself: that value, or NoSuchElementException when it erases it", 4, """
                begin 1 = 1
                set 1 4 6
                set 1 5 6
                step 1 = 1
                step 1 = 1
                begin 0 = 2
                set 0 4 9
                erase 0 5
                ~ get 0 4 = 9                        // another's lock does not matter
                ~ get 0 5 ! NoSuchElementException
                kill 1 = 1
                ~ get 0 4 = 9                        // nor is it cleared
                lock 4 0 = 1
                clear 4 = 2
                clear 5 = 2
                begin 2 = 3
                sweep 3 = 3
                ~ get 0 4 = 9                        // nor the watermark
                ~ get 0 5 ! NoSuchElementException
                crash 1 = 1
                ~ get 0 4 = 9                        // nor that the tablet is down
                ~ get 0 5 ! NoSuchElementException
                """);
    }

    private static void getTabletAndWatermark() {
        promise(3, "IllegalStateException when the tablet is down", 4, """
                begin 0 = 1
                begin 1 = 2
                crash 1 = 1
                ~ get 0 4 ! IllegalStateException
                ~ get 0 7 ! IllegalStateException
                ~ get 0 3 ! NoSuchElementException   // its neighbours are up
                ~ get 0 8 ! NoSuchElementException
                recover 1 = 1
                sweep 3 = 3
                crash 1 = 1
                ~ get 0 4 ! IllegalStateException    // before the watermark
                ~ get 0 3 ! UnsupportedOperationException
                """);
        promise(3, "UnsupportedOperationException when the tablet's watermark is above its start", 4, """
                begin 0 = 1
                begin 1 = 2
                begin 2 = 3
                sweep 2 = 3
                ~ get 0 0 ! UnsupportedOperationException    // 2 is the first above 1
                ~ get 1 0 ! NoSuchElementException           // and not above 2
                ~ get 2 0 ! NoSuchElementException
                """);
        promise(3, "UnsupportedOperationException when the tablet's watermark is above its start", 4, commit(4, 5) + """
                begin 0 = 3
                begin 1 = 4
                fail 1 1 false = 1
                sweep 5 = 1
                recover 1 = 1
                ~ get 0 3 ! UnsupportedOperationException
                ~ get 0 4 = 5                        // each tablet has its own
                ~ get 0 8 ! NoSuchElementException
                """);
        promise(3, "UnsupportedOperationException when the tablet's watermark is above its start", 4, """
                begin 0 = 1
                sweep 2 = 3
                begin 1 = 2
                set 1 4 5
                step 1 = 1
                ~ get 0 4 ! UnsupportedOperationException    // whatever lock is there
                step 1 = 2
                step 1 = 4
                ~ get 0 4 ! UnsupportedOperationException    // or record
                """);
    }

    private static void getClears() {
        String words = "If the cell has a lock whose start is below its own, the cell is cleared (held or hindered: IllegalStateException)";
        promise(3, words, 4, """
                begin 0 = 1
                begin 1 = 2
                begin 2 = 3
                set 1 4 5
                step 1 = 1
                ~ get 0 4 ! NoSuchElementException   // a start above its own: not held
                ~ get 2 4 ! IllegalStateException    // below: held
                tick 3 = 3
                ~ get 2 4 ! IllegalStateException
                tick 1 = 4
                ~ get 0 4 ! NoSuchElementException   // loose now, and still left alone
                lock 4 0 = 2
                get 2 4 ! NoSuchElementException
                lock 4 0 = -1                        // cleared
                record 4 0 2 = 3
                tablet 1 2 = 2
                """);
        promise(3, words, 4, """
                begin 1 = 1
                set 1 3 6
                set 1 4 7
                step 1 = 1
                step 1 = 1
                step 1 = 2
                step 1 = 3
                begin 0 = 3
                crash 0 = 1
                ~ get 0 4 ! IllegalStateException    // hindered by the primary's tablet
                recover 0 = 1
                fail 1 1 false = 1
                get 0 4 ! IllegalStateException      // hindered by an entry that fails
                tablet 1 1 = -1
                tablet 1 2 = 2
                transaction 0 0 = 1
                recover 1 = 1
                lock 4 0 = 1
                get 0 4 = 7                          // cleared by DONE, and read then
                record 4 0 0 = 2
                lock 4 0 = -1
                ~ get 0 4 = 7
                """);
        promise(3, words, 4, commit(4, 3) + """
                begin 1 = 3
                set 1 4 9
                step 1 = 1
                kill 1 = 1
                begin 1 = 4
                get 1 4 = 3                          // cleared by VOID, and what was before is read
                record 4 0 2 = 3
                """);
        promise(3, words, 4, """
                begin 0 = 1
                begin 1 = 2
                set 0 3 6
                set 0 4 7
                step 0 = 1
                step 0 = 1
                step 0 = 2
                step 0 = 3
                get 1 4 ! NoSuchElementException     // cleared by DONE at 3, which is not below 2
                record 4 0 0 = 3
                """);
    }

    private static void getReads() {
        String words = "Then the latest record PUT or ERASED at a time below its start says the value";
        promise(3, words, 4, """
                begin 0 = 1
                set 0 4 7
                step 0 = 1
                begin 1 = 2
                step 0 = 2
                begin 2 = 4
                step 0 = 4
                ~ get 1 4 ! NoSuchElementException   // 3 is the first time above 2
                ~ get 2 4 = 7                        // and the last below 4
                """);
        promise(3, words, 4, commit(4, 1) + "begin 1 = 3\n" + commit(4, 2) + "begin 2 = 6\n" + commit(4, 3) + """
                begin 3 = 9
                ~ get 1 4 = 1                        // records at 2, 5 and 8
                ~ get 2 4 = 2
                ~ get 3 4 = 3
                begin 0 = 10
                set 0 4 4
                step 0 = 1
                kill 0 = 1
                clear 4 = 2
                begin 0 = 11
                ~ get 0 4 = 3                        // a VOID at 10 says nothing
                """);
        promise(3, "NoSuchElementException when there is none or it is ERASED", 4, """
                begin 1 = 1
                ~ get 1 4 ! NoSuchElementException   // none at all
                """ + commit(4, 2) + """
                ~ get 1 4 ! NoSuchElementException   // none below its start
                begin 2 = 4
                get 2 4 = 2
                begin 0 = 5
                erase 0 4
                step 0 = 1
                step 0 = 2
                step 0 = 4
                begin 3 = 7
                ~ get 3 4 ! NoSuchElementException   // ERASED
                ~ get 2 4 = 2
                """ + commit(4, 0) + """
                begin 0 = 10
                ~ get 0 4 = 0                        // a value again, and 0 is one
                ~ get 3 4 ! NoSuchElementException
                """);
        promise(3, "NoSuchElementException when there is none or it is ERASED", 4, """
                begin 0 = 1
                set 0 4 1
                step 0 = 1
                kill 0 = 1
                clear 4 = 2
                begin 0 = 2
                ~ get 0 4 ! NoSuchElementException   // a VOID alone
                """);
    }

    private static void setAndErase() {
        String[][] calls = {{"4", "set %d %d 3"}, {"5", "erase %d %d"}};
        for (String[] call : calls) {
            int number = Integer.parseInt(call[0]);
            String row = call[1] + "\n";
            String refused = "~ " + call[1] + " ! IllegalArgumentException\n";
            String notReading = "~ " + call[1] + " ! IllegalStateException\n";
            StringBuilder wrong = new StringBuilder();
            wrong.append(refused.formatted(-1, 0) + refused.formatted(4, 0) + refused.formatted(0, -1) + refused.formatted(0, 12));
            for (int far : FAR) {
                wrong.append(refused.formatted(far, 0) + refused.formatted(0, far));
            }
            promise(number, "IllegalArgumentException when there is no such client or cell", 4, wrong
                    + "begin 0 = 1\n begin 3 = 2\n" + wrong + row.formatted(0, 0) + row.formatted(3, 11)
                    + "transaction 0 3 = 1\n transaction 3 3 = 2048\n step 0 = 1\n" + wrong);
            promise(number, "else IllegalStateException when it has no transaction that is reading", 4, notReading.formatted(0, 0)
                    + "begin 0 = 1\n" + notReading.formatted(1, 0) + row.formatted(0, 0) + "step 0 = 1\n"
                    + notReading.formatted(0, 0) + notReading.formatted(0, 5) + "step 0 = 2\n" + notReading.formatted(0, 0)
                    + "step 0 = 4\n" + notReading.formatted(0, 0) + "begin 0 = 3\n" + row.formatted(0, 0)
                    + "kill 0 = 1\n" + notReading.formatted(0, 0));
            promise(number, "(its tablet may be down)", 4, "begin 0 = 1\n crash 2 = 1\n" + row.formatted(0, 8) + row.formatted(0, 11)
                    + "transaction 0 3 = 2304\n transaction 0 0 = 1\n tablet 2 2 = 0\n recover 2 = 1\n step 0 = 1\n lock 8 0 = 1\n");
        }
        promise(4, "Client c's transaction writes v to a cell", 4, """
                begin 0 = 1
                set 0 0 2147483647
                set 0 1 -2147483648
                get 0 0 = 2147483647
                get 0 1 = -2147483648
                lock 0 0 = -1                        // nothing but the transaction is changed
                tablet 0 2 = 0
                sweep 2 = 3
                set 0 2 4                            // the watermark does not matter
                get 0 2 = 4
                """);
        promise(5, "Client c's transaction erases a cell", 4, """
                begin 0 = 1
                erase 0 0                            // one without any records
                transaction 0 3 = 1
                erase 0 0
                transaction 0 3 = 1
                get 0 0 ! NoSuchElementException
                step 0 = 1
                step 0 = 2
                step 0 = 4
                record 0 0 2 = 2
                record 0 0 3 = 0
                """);
    }

    private static void kill() {
        promise(7, "its open transaction ends, its locks are left where they are (and are loose): true", 20, """
                begin 0 = 1
                kill 0 = 1                           // reading
                transaction 0 0 = 0
                begin 0 = 2
                set 0 0 1
                set 0 8 1
                step 0 = 1
                step 0 = 1
                step 0 = 2
                lock 0 4 = 0
                kill 0 = 1                           // committing
                transaction 0 0 = 0
                transaction 0 1 = 0
                transaction 0 2 = 0
                transaction 0 3 = 0
                transaction 0 4 = 0
                lock 0 0 = 2
                lock 8 0 = 2
                lock 0 4 = 1
                lock 8 4 = 1
                tablet 0 2 = 1
                begin 0 = 4                          // it is there again at once
                lock 0 4 = 1
                """);
        promise(7, "its open transaction ends, its locks are left where they are (and are loose): true", 20, """
                begin 0 = 1
                set 0 0 1
                set 0 8 7
                step 0 = 1
                step 0 = 1
                step 0 = 2
                step 0 = 3
                kill 0 = 1                           // decided: what is left is cleared by DONE
                transaction 0 5 = 0
                lock 8 4 = 1
                clear 8 = 1
                record 8 0 3 = 7
                """);
        promise(7, "false when there is no such client or none is open", 20, """
                ~ kill 0 = 0
                begin 0 = 1
                begin 3 = 2
                ~ kill -1 = 0
                ~ kill 4 = 0
                ~ kill -2147483648 = 0
                ~ kill 2147483647 = 0
                ~ kill 1 = 0                         // another's is open
                kill 0 = 1
                ~ kill 0 = 0
                step 3 = 7
                ~ kill 3 = 0                         // ended
                """);
    }

    private static void clearAnswers() {
        promise(8, "0 when it had no lock, 1 when DONE was written for it, 2 when VOID was", 20, """
                ~ clear 0 = 0
                begin 0 = 1
                set 0 0 1
                set 0 4 2
                set 0 8 3
                step 0 = 1
                step 0 = 1
                step 0 = 1
                step 0 = 2
                step 0 = 3
                ~ clear 0 = 0                        // a record, but no lock
                clear 4 = 1
                ~ clear 4 = 0
                lock 8 0 = 1                         // its other locks are left
                begin 1 = 3
                set 1 0 5
                set 1 1 5
                set 1 5 5
                step 1 = 1
                step 1 = 1
                step 1 = 1
                kill 1 = 1
                clear 5 = 2                          // VOID for 0 first
                ~ clear 0 = 0
                clear 1 = 2
                ~ clear 1 = 0
                """);
    }

    private static void clearRefuses() {
        promise(8, "IllegalArgumentException when there is no such cell", 20, """
                ~ clear -1 ! IllegalArgumentException
                ~ clear 12 ! IllegalArgumentException
                ~ clear -2147483648 ! IllegalArgumentException
                ~ clear 2147483647 ! IllegalArgumentException
                clear 0 = 0
                clear 11 = 0
                crash 2 = 1
                ~ clear 12 ! IllegalArgumentException
                """);
        promise(8, "IllegalStateException when its tablet is down, or when that is held or hindered", 3, """
                crash 1 = 1
                ~ clear 4 ! IllegalStateException    // lock or none
                ~ clear 7 ! IllegalStateException
                ~ clear 3 = 0
                ~ clear 8 = 0
                recover 1 = 1
                begin 0 = 1
                set 0 3 1
                set 0 4 2
                step 0 = 1
                step 0 = 1
                ~ clear 3 ! IllegalStateException    // held
                ~ clear 4 ! IllegalStateException
                tick 2 = 2
                ~ clear 4 ! IllegalStateException
                tick 1 = 3
                crash 1 = 1
                ~ clear 4 ! IllegalStateException    // its tablet is down
                recover 1 = 1
                crash 0 = 1
                ~ clear 4 ! IllegalStateException    // hindered by the primary's
                recover 0 = 1
                fail 0 1 false = 1
                clear 4 ! IllegalStateException      // hindered by an entry that fails
                tablet 0 1 = -1
                lock 4 0 = 1
                recover 0 = 1
                clear 4 = 2
                """);
    }

    private static void tick() {
        promise(9, "So many ticks pass (0 .. 50): the time then", 4, """
                ~ tick 0 = 0
                tick 1 = 1
                tick 50 = 51
                tick 49 = 100
                ~ tick 0 = 100
                oracle 2 = 100
                """);
        promise(9, "NONE, and none passes, for another number", 4, """
                ~ tick -1 = -1
                ~ tick 51 = -1
                ~ tick -2147483648 = -1
                ~ tick 2147483647 = -1
                tick 50 = 50
                ~ tick 51 = -1
                ~ tick -1 = -1
                oracle 2 = 50
                """);
    }

    private static void crash() {
        for (int t = 0; t < 3; t++) {
            promise(10, "Tablet t goes down: true", 4, """
                    begin 0 = 1
                    set 0 %2$d 1
                    step 0 = 1
                    crash %1$d = 1
                    tablet %1$d 1 = -1
                    tablet %3$d 1 = 0
                    tablet %4$d 1 = 0
                    lock %2$d 0 = -1
                    transaction 0 4 = %5$d           // transactions are not the tablet's
                    tablet %1$d 0 = 1
                    tablet %1$d 2 = 1
                    """.formatted(t, 4 * t, (t + 1) % 3, (t + 2) % 3, 1 << 4 * t));
        }
        promise(10, "false when there is no such tablet or it is", 4, """
                ~ crash -1 = 0
                ~ crash 3 = 0
                ~ crash -2147483648 = 0
                ~ crash 2147483647 = 0
                crash 1 = 1
                ~ crash 1 = 0
                crash 0 = 1
                crash 2 = 1
                ~ crash 0 = 0
                ~ crash 2 = 0
                recover 1 = 1
                fail 1 1 true = 1
                begin 0 = 1
                set 0 4 1
                step 0 ! IllegalStateException
                ~ crash 1 = 0                        // down by a failure
                """);
    }

    private static void recover() {
        promise(11, "Tablet t comes up", 4, """
                crash 0 = 1
                crash 2 = 1
                recover 0 = 1
                tablet 0 1 = 0
                tablet 2 1 = -1
                recover 2 = 1
                tablet 2 1 = 0
                begin 0 = 1
                set 0 0 1
                set 0 8 1
                step 0 = 1
                step 0 = 1
                """);
        promise(11, "a failure that was set is set no more: true", 4, """
                begin 0 = 1
                set 0 4 1
                set 0 5 1
                fail 1 1 true = 1
                fail 0 1 true = 1
                crash 1 = 1
                recover 1 = 1
                step 0 = 1                           // one set before it went down
                crash 1 = 1
                fail 1 1 false = 1
                recover 1 = 1
                step 0 = 1                           // one set while it was down
                begin 1 = 2
                set 1 0 1
                step 1 ! IllegalStateException       // another tablet's stands
                """);
        promise(11, "a failure that was set is set no more: true", 4, """
                begin 0 = 1
                set 0 4 1
                set 0 5 1
                set 0 6 1
                fail 1 1 true = 1
                step 0 ! IllegalStateException
                fail 1 2 true = 1
                recover 1 = 1
                step 0 = 1                           // its lock is there
                step 0 = 1
                step 0 = 1
                """);
        promise(11, "false when there is no such tablet or it is up", 4, """
                ~ recover -1 = 0
                ~ recover 3 = 0
                ~ recover -2147483648 = 0
                ~ recover 2147483647 = 0
                fail 0 1 true = 1
                fail 2 3 false = 1
                ~ recover 0 = 0                      // a failure that was set stands then
                ~ recover 2 = 0
                begin 0 = 1
                set 0 0 1
                step 0 ! IllegalStateException
                recover 0 = 1
                ~ recover 0 = 0
                """);
    }

    private static void failNumbers() {
        promise(12, "false when a number is not as said", 4, """
                ~ fail -1 1 true = 0
                ~ fail 3 1 true = 0
                ~ fail 0 -1 true = 0
                ~ fail 0 21 true = 0
                ~ fail 2 -2147483648 false = 0
                ~ fail 2 2147483647 false = 0
                ~ fail -2147483648 1 false = 0
                ~ fail 2147483647 1 false = 0
                ~ fail 3 0 false = 0
                fail 0 2 false = 1
                fail 1 1 true = 1
                fail 2 3 true = 1
                ~ fail 0 21 true = 0                 // the one that was set stands
                ~ fail 0 -1 true = 0
                ~ fail 1 21 false = 0
                ~ fail 2 -1 false = 0
                """);
        int[][] places = {{1, 0}, {2, 0}, {7, 0}, {8, 0}, {9, 0}, {19, 0}, {20, 0}, {1, 2}, {20, 2}};
        for (int[] place : places) {
            failsAt(place[0], place[1], true);
            failsAt(place[0], place[1], false);
        }
    }

    /** Entries for one tablet, of which the k-th fails, where the whole transactions before it write two each. */
    private static void failsAt(int k, int t, boolean whole) {
        StringBuilder rows = new StringBuilder("fail " + t + " " + k + " " + whole + " = 1\n");
        rows.append(commit(4 * t, 1).repeat((k - 1) / 2));
        rows.append("begin 0\n set 0 " + 4 * t + " 5\n");
        rows.append(k % 2 == 1 ? "" : "step 0 = 1\n step 0 = 2\n");
        rows.append("tablet " + t + " 2 = " + (k - 1) + "\n step 0 ! IllegalStateException\n");
        rows.append("tablet " + t + " 2 = " + k + "\n tablet " + t + " 1 = -1\n");
        if (whole || (k - 1) % 8 != 0) {
            rows.append("tablet " + t + " 0 = " + ((k - 1) % 8 + (whole ? 1 : 0)) + "\n");
        }
        rows.append("recover " + t + " = 1\n");
        rows.append(k % 2 == 1 ? "step 0 = 1\n step 0 = 2\n step 0 = 4\n" : "step 0 = 4\n");
        rows.append("tablet " + t + " 2 = " + ((k + 1) / 2 * 2 + (whole ? 0 : 1)) + "\n");
        promise(12, "is set for the k-th of its entries from now on (1 .. 20)", 4, rows.toString());
    }

    private static void failIsSet() {
        promise(12, "The failure of tablet t (it may be down) is set", 4, """
                crash 1 = 1
                fail 1 1 true = 1
                fail 1 20 false = 1
                fail 1 0 false = 1
                ~ fail 1 21 false = 0
                tablet 1 1 = -1                      // it is down as before
                """);
        promise(12, "in place of another one, with the entry whole in the log or not", 4, """
                fail 1 1 true = 1
                fail 1 2 false = 1                   // later
                begin 0 = 1
                set 0 4 1
                set 0 5 1
                step 0 = 1
                step 0 ! IllegalStateException
                tablet 1 0 = 1
                recover 1 = 1
                lock 5 0 = -1
                """);
        promise(12, "in place of another one, with the entry whole in the log or not", 4, """
                fail 1 2 false = 1
                fail 1 1 true = 1                    // sooner
                begin 0 = 1
                set 0 4 1
                set 0 5 1
                step 0 ! IllegalStateException
                tablet 1 0 = 1
                recover 1 = 1
                lock 4 0 = 1
                step 0 = 1
                step 0 = 1                           // the other one is no more
                """);
        promise(12, "is set for the k-th of its entries from now on (1 .. 20)", 4, """
                begin 0 = 1
                set 0 4 1
                set 0 5 1
                set 0 6 1
                set 0 7 1
                fail 1 3 false = 1
                step 0 = 1
                step 0 = 1
                fail 1 2 false = 1                   // counted from now on
                step 0 = 1
                step 0 ! IllegalStateException
                tablet 1 2 = 4
                """);
        promise(12, "k = 0: none is: true", 4, """
                fail 1 1 true = 1
                fail 2 1 true = 1
                fail 1 0 true = 1
                begin 0 = 1
                set 0 4 1
                set 0 8 1
                step 0 = 1
                step 0 ! IllegalStateException       // another tablet's stands
                recover 2 = 1
                ~ fail 0 0 false = 1                 // none was set
                ~ fail 1 0 true = 1
                """);
    }

    private static void failOracle() {
        promise(13, "next becomes the limit + 1. Answers next", 4, """
                ~ failOracle = 1                     // the limit is 0, and next 1 as it was
                begin 0 = 1
                failOracle = 9
                ~ failOracle = 9
                oracle 0 = 9
                oracle 1 = 8                         // the limit stays
                begin 1 = 9
                oracle 1 = 16
                failOracle = 17
                oracle 0 = 17
                set 0 0 1
                step 0 = 1
                step 0 = 2
                transaction 0 2 = 17
                oracle 1 = 24
                """);
        StringBuilder rows = new StringBuilder();
        for (int time = 1; time <= 8; time++) {
            rows.append("begin 0 = " + time + "\n kill 0 = 1\n");
        }
        promise(13, "next becomes the limit + 1. Answers next", 4, rows + """
                ~ failOracle = 9                     // all up to the limit were handed out
                begin 0 = 9
                """);
    }
}
