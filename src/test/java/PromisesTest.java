/** Each promise of the document by rows of calls; where an edge is meant, a comment beside the row says which. */
final class PromisesTest {
    private PromisesTest() {
    }

    public static void main(String[] args) {
        newObject();
        life();
        begin();
        getOrder();
        getReads();
        getClears();
        setAndErase();
        stepAnswers();
        stepMakesCommitting();
        stepPrewrites();
        stepClearsOnTheWay();
        stepIsOvertakenByVoid();
        stepDecides();
        stepFollows();
        kill();
        clear();
        clearByThePrimary();
        tick();
        crashAndRecover();
        fail();
        failInTheMiddle();
        failOracle();
        sweepRefuses();
        sweepForgets();
        sweepFails();
        transaction();
        lock();
        record();
        tablet();
        oracle();
        Script.end();
    }

    private static void newObject() {
        StringBuilder rows = new StringBuilder();
        for (int cell = 0; cell < 12; cell++) {
            rows.append("lock " + cell + " 0 = -1\n record " + cell + " 0 0 = -1\n clear " + cell + " = 0\n");
        }
        for (int t = 0; t < 3; t++) {
            rows.append("tablet " + t + " 0 = 0\n tablet " + t + " 1 = 0\n tablet " + t + " 2 = 0\n");
        }
        for (int c = 0; c < 4; c++) {
            rows.append("step " + c + " ! NoSuchElementException\n");
            for (int what = 0; what < 6; what++) {
                rows.append("transaction " + c + " " + what + " = 0\n");
            }
        }
        Script.run("1 a new object", 5, rows.toString());
    }

    private static void life() {
        livesFor(Integer.MIN_VALUE, 1);
        livesFor(-1, 1);
        livesFor(0, 1);
        livesFor(1, 1);
        livesFor(2, 2);
        livesFor(19, 19);
        livesFor(20, 20);
        livesFor(21, 20);
        livesFor(Integer.MAX_VALUE, 20);
    }

    private static void livesFor(int life, int ticks) {
        Script.run("1 life " + life, life, """
                begin 0 = 1
                set 0 3 7
                step 0 = 1
                tick %d
                lock 3 4 = 0
                clear 3 ! IllegalStateException
                tick 1
                lock 3 4 = 1
                clear 3 = 2
                """.formatted(ticks - 1));
    }

    private static void begin() {
        Script.run("2 begin", 4, """
                begin -1 ! IllegalArgumentException
                begin 4 ! IllegalArgumentException
                begin 3 = 1
                begin 3 ! IllegalStateException
                oracle 0 = 2             // what throws takes no time
                begin 0 = 2
                step 0 = 7
                begin 0 = 3
                set 0 0 1
                step 0 = 1
                begin 0 ! IllegalStateException
                kill 0 = 1
                begin 0 = 4
                transaction 0 3 = 0
                transaction 0 4 = 0
                transaction 0 0 = 1
                """);
    }

    private static void getOrder() {
        Script.run("3 get, what is tested first", 4, """
                get -1 0 ! IllegalArgumentException
                get 4 0 ! IllegalArgumentException
                get 0 -1 ! IllegalArgumentException
                get 0 12 ! IllegalArgumentException
                get 0 0 ! IllegalStateException      // none is open
                begin 0 = 1
                begin 1 = 2
                get 0 11 ! NoSuchElementException
                set 0 4 8
                set 0 4 9
                erase 0 5
                sweep 3 = 3
                get 0 6 ! UnsupportedOperationException
                get 0 4 = 9                          // own writes come before the watermark
                get 0 5 ! NoSuchElementException
                crash 1 = 1
                get 0 6 ! IllegalStateException      // down comes before the watermark
                get 0 4 = 9                          // and behind own writes
                get 0 5 ! NoSuchElementException
                get 0 12 ! IllegalArgumentException
                step 0 ! IllegalStateException
                get 0 4 ! IllegalStateException      // committing
                begin 2 = 3
                get 2 0 ! NoSuchElementException     // the watermark is its start, not above
                """);
    }

    private static void getReads() {
        Script.run("3 get reads as of the start", 4, """
                begin 0 = 1
                begin 1 = 2
                set 1 0 -7
                step 1 = 1
                step 1 = 2                           // commit time 3
                begin 2 = 4
                step 1 = 4
                begin 3 = 5
                erase 3 0
                step 3 = 1
                step 3 = 2                           // commit time 6
                step 3 = 4
                begin 1 = 7
                begin 3 = 8
                set 3 0 2147483647
                step 3 = 1
                step 3 = 2                           // commit time 9
                step 3 = 4
                begin 3 = 10
                get 0 0 ! NoSuchElementException
                get 2 0 = -7
                get 1 0 ! NoSuchElementException     // erased
                get 3 0 = 2147483647
                kill 1 = 1
                begin 1 = 11
                set 1 0 5
                step 1 = 1
                kill 1 = 1
                clear 0 = 2
                begin 1 = 12
                get 1 0 = 2147483647                 // a VOID is passed over
                """);
    }

    private static void getClears() {
        Script.run("3 get clears", 4, """
                begin 0 = 1
                begin 1 = 2
                set 1 5 55
                set 1 1 11
                step 1 = 1
                step 1 = 1
                step 1 = 2
                begin 2 = 4
                get 0 5 ! NoSuchElementException     // a lock with a start above its own does not matter
                lock 5 0 = 2
                get 2 5 ! IllegalStateException      // held
                step 1 = 3
                crash 0 = 1
                get 2 5 ! IllegalStateException      // hindered: the primary's tablet is down
                recover 0 = 1
                get 2 5 = 55
                lock 5 0 = -1
                record 5 0 0 = 3
                tablet 1 2 = 2
                """);
        Script.run("3 get clears by VOID", 4, """
                begin 0 = 1
                set 0 0 1
                set 0 4 2
                step 0 = 1
                step 0 = 1
                tick 4 = 4
                begin 1 = 2
                fail 1 1 false = 1
                get 1 4 ! IllegalStateException      // VOID is written for 0, and fails for 4
                record 0 0 2 = 3
                recover 1 = 1
                lock 4 0 = 1
                get 1 4 ! NoSuchElementException
                lock 4 0 = -1
                record 4 0 2 = 3
                """);
    }

    private static void setAndErase() {
        for (String call : new String[] {"set %d %d 3", "erase %d %d"}) {
            Script.run("4 5 " + call, 4, (call + " ! IllegalArgumentException\n").formatted(-1, 0)
                    + (call + " ! IllegalArgumentException\n").formatted(4, 0)
                    + (call + " ! IllegalArgumentException\n").formatted(0, -1)
                    + (call + " ! IllegalArgumentException\n").formatted(0, 12)
                    + (call + " ! IllegalStateException\n").formatted(0, 0)
                    + "begin 0 = 1\n crash 2 = 1\n"
                    + (call + "\n").formatted(0, 11)
                    + "transaction 0 3 = 2048\n transaction 0 0 = 1\n step 0 ! IllegalStateException\n"
                    + (call + " ! IllegalStateException\n").formatted(0, 1)
                    + (call + " ! IllegalArgumentException\n").formatted(0, 12)
                    + "transaction 0 3 = 2048\n");
        }
        Script.run("4 5 the latest counts", 4, """
                begin 0 = 1
                set 0 2 5
                erase 0 2
                get 0 2 ! NoSuchElementException
                set 0 2 6
                get 0 2 = 6
                set 0 3 7
                erase 0 3
                erase 0 4
                set 0 4 8
                transaction 0 3 = 28
                step 0 = 1
                step 0 = 1
                step 0 = 1
                lock 2 5 = 6
                lock 3 5 = 0
                lock 4 5 = 8
                step 0 = 2
                step 0 = 3
                step 0 = 5
                step 0 = 6
                record 2 0 2 = 1
                record 3 0 2 = 2
                record 4 0 2 = 1
                record 4 0 3 = 8
                """);
    }

    private static void stepAnswers() {
        Script.run("6 step, its answers", 4, """
                step -1 ! IllegalArgumentException
                step 4 ! IllegalArgumentException
                step 0 ! NoSuchElementException
                begin 0 = 1
                step 0 = 7
                step 0 ! NoSuchElementException
                begin 0 = 2
                set 0 11 1
                set 0 3 2
                erase 0 7
                step 0 = 1
                transaction 0 4 = 8                  // the least first
                step 0 = 1
                transaction 0 4 = 136
                step 0 = 1
                transaction 0 4 = 2184
                transaction 0 2 = 0
                step 0 = 2
                transaction 0 2 = 3
                transaction 0 5 = 0
                step 0 = 3
                transaction 0 5 = 1
                lock 7 0 = 2
                step 0 = 5
                lock 7 0 = -1
                lock 11 0 = 2
                step 0 = 6
                lock 11 0 = -1
                record 3 0 0 = 3
                record 7 0 0 = 3
                record 11 0 0 = 3
                record 11 0 1 = 2
                transaction 0 0 = 0
                tablet 0 2 = 2
                tablet 1 2 = 2
                tablet 2 2 = 2
                """);
    }

    private static void stepMakesCommitting() {
        Script.run("6 the first step makes it committing in any case", 4, """
                begin 0 = 1
                set 0 0 1
                crash 0 = 1
                step 0 ! IllegalStateException
                transaction 0 0 = 2
                transaction 0 4 = 0
                set 0 1 1 ! IllegalStateException
                recover 0 = 1
                begin 1 = 2
                set 1 0 1
                step 0 = 1
                step 1 ! IllegalStateException       // held
                transaction 1 0 = 2
                get 1 0 ! IllegalStateException
                """);
    }

    private static void stepPrewrites() {
        Script.run("6 conflicts of a prewrite", 20, """
                begin 0 = 1
                begin 1 = 2
                begin 2 = 3
                set 0 4 1
                set 1 4 2
                set 1 0 2
                step 0 = 1
                step 0 = 2                           // commit time 4
                step 0 = 4
                step 1 = 1
                step 1 = 0                           // the record at 4 is above the start 2
                transaction 1 0 = 0
                lock 0 0 = 2                         // its lock is left
                lock 0 4 = 1
                set 2 4 3
                step 2 = 0
                begin 2 = 5
                erase 2 4
                step 2 = 1                           // a record below the start is no conflict
                step 2 = 2
                step 2 = 4
                clear 0 = 2
                """);
        Script.run("6 ERASED overtakes, and the watermark", 20, """
                begin 0 = 1
                begin 1 = 2
                erase 1 0
                step 1 = 1
                step 1 = 2
                step 1 = 4
                set 0 0 1
                step 0 = 0
                begin 0 = 4
                begin 1 = 5
                sweep 5 = 3
                set 0 8 1
                step 0 = 0                           // the watermark 5 is above 4
                tablet 2 2 = 1
                set 1 8 1
                step 1 = 1                           // and not above 5
                """);
    }

    private static void stepClearsOnTheWay() {
        Script.run("6 a prewrite clears first", 4, """
                begin 0 = 1
                begin 1 = 2
                set 0 1 10
                set 0 6 60
                step 0 = 1
                step 0 = 1
                set 1 6 61
                step 1 ! IllegalStateException       // held
                tablet 1 2 = 1
                step 0 = 2
                step 0 = 3
                step 1 = 0                           // cleared by DONE at 3, and overtaken by that
                record 6 0 0 = 3
                record 6 0 3 = 60
                lock 6 0 = -1
                begin 1 = 4
                begin 2 = 5
                set 1 1 11
                set 1 6 62
                step 1 = 1
                step 1 = 1
                kill 1 = 1
                set 2 6 63
                crash 0 = 1
                step 2 ! IllegalStateException       // hindered by the other's primary
                recover 0 = 1
                step 2 = 1                           // VOID for 1 and 6, then LOCK
                record 1 0 2 = 3
                record 6 0 2 = 3
                record 6 0 0 = 4
                lock 6 0 = 5
                lock 6 1 = 6
                """);
        Script.run("6 hindered by a failure while clearing", 4, """
                begin 0 = 1
                set 0 0 1
                set 0 1 1
                set 0 4 1
                step 0 = 1
                step 0 = 1
                step 0 = 1
                kill 0 = 1
                begin 1 = 2
                set 1 1 9
                fail 0 1 true = 1
                step 1 ! IllegalStateException       // VOID for 0 is there; nothing further is written
                tablet 0 2 = 3
                recover 0 = 1
                lock 0 0 = -1
                lock 1 0 = 1
                fail 0 2 false = 1
                step 1 ! IllegalStateException       // VOID for 1 is written, its own LOCK fails
                recover 0 = 1
                lock 1 0 = -1
                record 1 0 2 = 3
                tablet 0 2 = 5
                step 1 = 1
                """);
    }

    private static void stepIsOvertakenByVoid() {
        Script.run("6 a VOID with its start", 2, """
                begin 0 = 1
                begin 1 = 2
                set 0 0 1
                fail 0 1 true = 1
                step 0 ! IllegalStateException       // the lock is there, but it does not know
                recover 0 = 1
                tick 2 = 2
                clear 0 = 2
                step 0 = 0
                transaction 0 0 = 0
                set 1 0 5
                step 1 = 1                           // another's VOID is no conflict
                """);
        Script.run("6 a VOID of a later start", 20, """
                begin 0 = 1
                begin 1 = 2
                set 1 0 1
                step 1 = 1
                kill 1 = 1
                clear 0 = 2
                set 0 0 5
                step 0 = 1
                """);
    }

    private static void stepDecides() {
        Script.run("6 deciding", 2, """
                begin 0 = 1
                set 0 0 1
                set 0 4 2
                step 0 = 1
                step 0 = 1
                step 0 = 2
                crash 0 = 1
                step 0 ! IllegalStateException       // hindered
                recover 0 = 1
                fail 0 1 true = 1
                step 0 ! IllegalStateException
                transaction 0 5 = 0
                recover 0 = 1
                record 0 0 0 = 2
                step 0 = 3                           // it finds its record
                tablet 0 2 = 2
                step 0 = 6
                record 4 0 0 = 2
                """);
        Script.run("6 deciding without a lock", 2, """
                begin 0 = 1
                set 0 0 1
                set 0 4 2
                step 0 = 1
                step 0 = 1
                tick 2 = 2
                clear 0 = 2
                begin 1 = 2
                set 1 0 7
                step 1 = 1
                step 0 = 2                           // it does not know yet
                step 0 = 0
                lock 0 0 = 2
                lock 4 0 = 1
                transaction 0 0 = 0
                """);
        Script.run("6 deciding an erasure anew", 2, """
                begin 0 = 1
                erase 0 0
                step 0 = 1
                step 0 = 2
                fail 0 1 true = 1
                step 0 ! IllegalStateException
                recover 0 = 1
                step 0 = 4
                """);
    }

    private static void stepFollows() {
        Script.run("6 following", 2, """
                begin 0 = 1
                set 0 0 1
                set 0 4 2
                set 0 8 3
                step 0 = 1
                step 0 = 1
                step 0 = 1
                step 0 = 2
                step 0 = 3
                crash 1 = 1
                step 0 ! IllegalStateException       // the least is 4; 8 must wait
                lock 8 0 = 1
                recover 1 = 1
                fail 1 1 false = 1
                step 0 ! IllegalStateException
                recover 1 = 1
                lock 4 0 = 1
                step 0 = 5
                clear 8 = 1
                tablet 2 2 = 2
                step 0 = 6                           // nothing is written where the lock is gone
                tablet 2 2 = 2
                record 8 1 0 = -1
                """);
        Script.run("6 another's lock is not followed", 2, """
                begin 0 = 1
                set 0 0 1
                set 0 4 2
                step 0 = 1
                step 0 = 1
                step 0 = 2
                step 0 = 3
                begin 1 = 3
                set 1 4 9
                step 1 = 1
                lock 4 0 = 3
                step 0 = 6
                lock 4 0 = 3
                record 4 0 3 = 2
                """);
    }

    private static void kill() {
        Script.run("7 kill", 20, """
                kill -1 = 0
                kill 4 = 0
                kill 0 = 0
                begin 0 = 1
                kill 0 = 1
                kill 0 = 0
                begin 0 = 2
                set 0 9 1
                step 0 = 1
                lock 9 4 = 0
                kill 0 = 1
                lock 9 0 = 2
                lock 9 4 = 1
                transaction 0 0 = 0
                transaction 0 1 = 0
                transaction 0 3 = 0
                transaction 0 4 = 0
                step 0 ! NoSuchElementException
                begin 0 = 3                          // an open transaction with another start
                lock 9 4 = 1
                """);
    }

    private static void clear() {
        Script.run("8 clear", 3, """
                clear -1 ! IllegalArgumentException
                clear 12 ! IllegalArgumentException
                clear 11 = 0
                crash 2 = 1
                clear 11 ! IllegalStateException     // even without a lock
                recover 2 = 1
                begin 0 = 1
                set 0 11 1
                set 0 3 2
                step 0 = 1
                step 0 = 1
                clear 3 ! IllegalStateException      // held
                clear 11 ! IllegalStateException
                crash 0 = 1
                clear 11 ! IllegalStateException     // hindered
                recover 0 = 1
                step 0 = 2
                step 0 = 3
                kill 0 = 1
                clear 11 = 1
                clear 11 = 0
                record 11 0 0 = 2
                record 11 0 3 = 1
                tablet 2 2 = 2
                """);
        Script.run("8 clear by VOID", 3, """
                begin 0 = 1
                set 0 0 1
                set 0 1 2
                set 0 4 2
                step 0 = 1
                step 0 = 1
                step 0 = 1
                kill 0 = 1
                clear 4 = 2                          // 0 first, then 4
                lock 0 0 = -1
                lock 1 0 = 1
                lock 4 0 = -1
                record 0 0 0 = 1
                record 0 0 1 = 1
                record 0 0 2 = 3
                record 4 0 0 = 1
                tablet 0 2 = 3
                clear 1 = 2                          // 0 has neither lock nor record PUT: VOID for 1 alone
                tablet 0 2 = 4
                record 0 1 0 = -1
                """);
    }

    private static void clearByThePrimary() {
        Script.run("8 the primary's lock is what is loose or not", 5, """
                begin 0 = 1
                set 0 0 1
                set 0 4 2
                step 0 = 1
                tick 4 = 4
                step 0 = 1
                clear 4 ! IllegalStateException
                tick 1 = 5
                lock 0 4 = 1
                lock 4 4 = 0
                clear 4 = 2
                lock 0 0 = -1
                """);
        Script.run("8 a failure in the middle", 5, """
                begin 0 = 1
                set 0 0 1
                set 0 4 2
                step 0 = 1
                step 0 = 1
                kill 0 = 1
                fail 0 1 false = 1
                clear 4 ! IllegalStateException
                tablet 1 2 = 1                       // nothing further is written
                lock 4 0 = 1
                recover 0 = 1
                lock 0 0 = 1
                fail 0 1 true = 1
                clear 4 ! IllegalStateException
                lock 4 0 = 1
                recover 0 = 1
                lock 0 0 = -1
                record 0 0 2 = 3
                fail 1 1 true = 1
                clear 4 ! IllegalStateException
                clear 4 ! IllegalStateException      // down now
                recover 1 = 1
                clear 4 = 0
                record 4 0 2 = 3
                record 4 1 2 = -1
                """);
        Script.run("8 DONE that fails", 5, """
                begin 0 = 1
                erase 0 0
                set 0 4 2
                step 0 = 1
                step 0 = 1
                step 0 = 2
                step 0 = 3
                fail 1 1 false = 1
                clear 4 ! IllegalStateException
                recover 1 = 1
                clear 4 = 1                          // by a record ERASED at the primary
                record 4 0 0 = 2
                """);
    }

    private static void tick() {
        Script.run("9 tick", 4, """
                tick -1 = -1
                tick 51 = -1
                tick -2147483648 = -1
                tick 2147483647 = -1
                oracle 2 = 0
                tick 0 = 0
                tick 50 = 50
                tick 1 = 51
                tick 51 = -1
                oracle 2 = 51
                """);
    }

    private static void crashAndRecover() {
        Script.run("10 11 crash and recover", 4, """
                crash -1 = 0
                crash 3 = 0
                recover -1 = 0
                recover 3 = 0
                recover 0 = 0
                begin 0 = 1
                set 0 0 1
                step 0 = 1
                crash 0 = 1
                crash 0 = 0
                lock 0 0 = -1
                lock 4 0 = -1
                clear 0 ! IllegalStateException
                clear 4 = 0
                recover 1 = 0
                recover 0 = 1
                recover 0 = 0
                lock 0 0 = 1
                tablet 0 0 = 1
                tablet 0 2 = 1
                fail 0 1 true = 1
                crash 0 = 1
                recover 0 = 1                        // the failure is set no more
                step 0 = 2
                step 0 = 4
                crash 0 = 1
                fail 0 1 true = 1
                recover 0 = 1                        // nor one that was set while it was down
                begin 0 = 3
                set 0 0 1
                step 0 = 1
                """);
    }

    private static void fail() {
        Script.run("12 fail, its numbers", 4, """
                fail -1 1 true = 0
                fail 3 1 true = 0
                fail 0 -1 true = 0
                fail 0 21 true = 0
                fail 0 20 true = 1
                fail 0 0 true = 1
                fail 2 1 false = 1
                fail 2 2 true = 1                    // in place of the other one
                fail 2 21 false = 0                  // which changes nothing
                fail 2 -1 false = 0
                begin 0 = 1
                set 0 8 1
                step 0 = 1
                step 0 = 2
                step 0 ! IllegalStateException
                tablet 2 0 = 2
                recover 2 = 1
                record 8 0 0 = 2
                step 0 = 4
                begin 0 = 3
                set 0 8 1
                fail 2 1 true = 1
                fail 2 0 true = 1                    // none is
                step 0 = 1
                """);
        StringBuilder rows = new StringBuilder("fail 0 20 false = 1\n");
        for (int n = 1; n <= 9; n++) {
            rows.append("begin 0\n set 0 0 1\n step 0 = 1\n step 0 = 2\n step 0 = 4\n tablet 0 0 = " + (n < 5 ? 2 * n : n < 9 ? 2 * n - 8 : 2) + "\n");
        }
        rows.append("begin 0\n set 0 0 5\n step 0 = 1\n step 0 = 2\n step 0 ! IllegalStateException\n tablet 0 2 = 20\n tablet 0 0 = 3\n"
                + "recover 0 = 1\n step 0 = 4\n tablet 0 2 = 21\n tablet 0 0 = 4\n");
        Script.run("12 the 20th entry fails, and that alone", 4, rows.toString());
    }

    private static void failInTheMiddle() {
        Script.run("12 an entry that is not whole", 4, """
                fail 1 1 false = 1
                begin 0 = 1
                set 0 4 1
                step 0 ! IllegalStateException
                tablet 1 0 = 0
                tablet 1 1 = -1
                tablet 1 2 = 1
                step 0 ! IllegalStateException
                tablet 1 2 = 1                       // down: nothing is written
                recover 1 = 1
                lock 4 0 = -1
                transaction 0 4 = 0
                tick 3 = 3
                step 0 = 1
                lock 4 3 = 3
                """);
        Script.run("12 an entry that is whole", 4, """
                fail 1 1 true = 1
                begin 0 = 1
                set 0 4 1
                step 0 ! IllegalStateException
                tablet 1 0 = 1
                tablet 1 2 = 1
                recover 1 = 1
                lock 4 0 = 1
                transaction 0 4 = 0
                tick 3 = 3
                step 0 = 1
                tablet 1 2 = 1
                lock 4 3 = 0                         // the lock that was there is the lock
                transaction 0 4 = 16
                """);
        StringBuilder rows = new StringBuilder();
        for (int n = 0; n < 4; n++) {
            rows.append("begin 0\n set 0 0 1\n step 0 = 1\n step 0 = 2\n step 0 = 4\n");
        }
        rows.append("tablet 0 0 = 8\n fail 0 1 %s = 1\n begin 0\n set 0 0 1\n step 0 ! IllegalStateException\n tablet 0 0 = %d\n");
        Script.run("12 a full log is emptied before", 4, rows.toString().formatted("true", 1));
        Script.run("12 a full log is emptied before", 4, rows.toString().formatted("false", 0));
    }

    private static void failOracle() {
        Script.run("13 failOracle", 4, """
                failOracle = 1
                failOracle = 1
                begin 0 = 1
                oracle 1 = 8
                failOracle = 9
                failOracle = 9
                oracle 1 = 8
                begin 1 = 9
                oracle 0 = 10
                oracle 1 = 16
                set 0 0 1
                step 0 = 1
                failOracle = 17
                step 0 = 2
                transaction 0 2 = 17
                oracle 1 = 24
                """);
    }

    private static void sweepRefuses() {
        Script.run("14 sweep refuses", 20, """
                sweep 0 = -1
                sweep -5 = -1
                sweep 2 = -1                         // above next
                sweep 1 = 3                          // next itself
                sweep 1 = -1                         // not above the greatest watermark
                tablet 0 2 = 1
                begin 0 = 1
                begin 1 = 2
                begin 2 = 3
                sweep 3 = 3                          // reading ones do not matter
                tablet 0 1 = 3
                tablet 1 1 = 3
                tablet 2 1 = 3
                crash 2 = 1
                sweep 4 = -1
                recover 2 = 1
                set 2 11 1
                step 2 = 1
                sweep 4 = -1                         // a lock, and a committing one
                kill 2 = 1
                sweep 4 = -1                         // a lock with the start 3
                clear 11 = 2
                begin 2 = 4
                set 2 11 1
                crash 2 = 1
                step 2 ! IllegalStateException
                recover 2 = 1
                sweep 5 = -1                         // a committing one with the start 4, no lock
                sweep 4 = 3                          // which is not below 4
                step 2 = 1
                sweep 5 = -1
                tablet 0 2 = 3
                """);
    }

    private static void sweepForgets() {
        String writes = """
                begin 0
                set 0 0 1
                set 0 1 1
                step 0 = 1
                step 0 = 1
                step 0 = 2
                step 0 = 3
                step 0 = 6                           // 0 and 1 at 2
                begin 0 = 3
                set 0 0 2
                erase 0 1
                step 0 = 1
                step 0 = 1
                step 0 = 2
                step 0 = 3
                step 0 = 6                           // at 4
                begin 0 = 5
                set 0 0 9
                step 0 = 1
                kill 0 = 1
                clear 0 = 2                          // VOID at 5
                begin 0 = 6
                set 0 0 3
                step 0 = 1
                step 0 = 2
                step 0 = 4                           // at 7
                """;
        Script.run("14 sweep forgets below w", 20, writes + """
                sweep 4 = 3
                record 0 0 0 = 7
                record 0 1 0 = 5
                record 0 2 0 = 4
                record 0 3 0 = 2
                record 1 0 0 = 4
                record 1 1 0 = 2
                sweep 5 = 3
                record 0 0 0 = 7
                record 0 1 0 = 5                     // not below 5
                record 0 2 0 = 4                     // the latest below
                record 0 3 0 = -1
                record 1 0 0 = -1                    // the latest below, but ERASED
                sweep 7 = 3
                record 0 0 0 = 7
                record 0 1 0 = 4                     // the VOID is gone, and is not the latest
                record 0 2 0 = -1
                sweep 8 = 3
                record 0 0 0 = 7
                record 0 0 3 = 3
                record 0 1 0 = -1
                begin 1 = 8
                get 1 0 = 3
                get 1 1 ! NoSuchElementException
                """);
        Script.run("14 sweep forgets a VOID that is the latest", 20, writes + """
                begin 0 = 8
                set 0 0 9
                step 0 = 1
                kill 0 = 1
                sweep 8 = 3                          // a lock with the start 8 is not below 8
                sweep 9 = -1
                clear 0 = 2
                record 0 0 0 = 8
                sweep 9 = 3
                record 0 0 0 = 7
                record 0 0 3 = 3
                record 0 1 0 = -1
                """);
        Script.run("14 a sweep forgets where it is in force alone", 20, """
                begin 0 = 1
                erase 0 3
                erase 0 4
                erase 0 8
                step 0 = 1
                step 0 = 1
                step 0 = 1
                step 0 = 2
                step 0 = 3
                step 0 = 5
                step 0 = 6
                fail 1 1 false = 1
                sweep 3 = 1
                recover 1 = 1
                record 3 0 0 = -1
                record 4 0 0 = 2
                record 8 0 0 = 2
                """);
    }

    private static void sweepFails() {
        for (int t = 0; t < 3; t++) {
            for (int whole = 0; whole < 2; whole++) {
                StringBuilder rows = new StringBuilder("begin 0\n begin 1\n fail " + t + " 1 " + (whole == 1) + "\n");
                rows.append("sweep 3 = " + (t + whole) + "\n tablet " + t + " 1 = -1\n recover " + t + " = 1\n");
                for (int i = 0; i < 3; i++) {
                    rows.append("tablet " + i + " 1 = " + (i < t + whole ? 3 : 0) + "\n");
                    rows.append("tablet " + i + " 0 = " + (i < t + whole ? 1 : 0) + "\n");
                    rows.append("tablet " + i + " 2 = " + (i <= t ? 1 : 0) + "\n");
                }
                rows.append("sweep 2 = " + (t + whole == 0 ? 3 : -1) + "\n begin 2 = 3\n sweep 4 = 3\n");
                Script.run("14 sweep fails at " + t + " whole " + whole, 4, rows.toString());
            }
        }
    }

    private static void transaction() {
        Script.run("15 transaction", 20, """
                transaction -1 0 = -1
                transaction 4 0 = -1
                transaction 0 -1 = -1
                transaction 0 6 = -1
                transaction 0 5 = 0
                begin 1 = 1
                begin 0 = 2
                transaction 0 0 = 1
                transaction 0 1 = 2
                transaction 0 2 = 0
                transaction 0 3 = 0
                transaction 0 4 = 0
                transaction 0 5 = 0
                transaction 0 6 = -1
                set 0 0 1
                erase 0 11
                transaction 0 3 = 2049
                step 0 = 1
                transaction 0 0 = 2
                transaction 0 4 = 1
                step 0 = 1
                transaction 0 4 = 2049
                step 0 = 2
                transaction 0 2 = 3
                transaction 0 5 = 0
                step 0 = 3
                transaction 0 0 = 2
                transaction 0 1 = 2
                transaction 0 2 = 3
                transaction 0 3 = 2049
                transaction 0 5 = 1
                transaction 1 0 = 1
                step 0 = 6
                transaction 0 0 = 0
                transaction 0 1 = 0
                transaction 0 2 = 0
                transaction 0 3 = 0
                transaction 0 4 = 0
                transaction 0 5 = 0
                begin 0 = 4
                transaction 0 2 = 0
                transaction 0 5 = 0
                """);
    }

    private static void lock() {
        Script.run("16 lock", 20, """
                lock -1 0 = -1
                lock 12 0 = -1
                lock 11 0 = -1
                begin 3 = 1
                begin 0 = 2
                set 0 11 77
                erase 0 10
                tick 6 = 6
                step 0 = 1
                tick 2 = 8
                step 0 = 1
                lock 11 0 = 2
                lock 11 1 = 10
                lock 11 2 = 0
                lock 11 3 = 8
                lock 11 4 = 0
                lock 11 5 = 77
                lock 11 6 = -1
                lock 11 -1 = -1
                lock 10 3 = 6
                lock 10 5 = 0
                tick 19 = 27
                lock 10 4 = 1
                lock 11 4 = 0
                crash 2 = 1
                lock 11 0 = -1
                lock 11 4 = -1
                recover 2 = 1
                lock 11 4 = 0
                set 3 5 -9
                step 3 = 1
                lock 5 2 = 3
                lock 5 5 = -9
                """);
    }

    private static void record() {
        Script.run("17 record", 20, """
                begin 0 = 1
                begin 1 = 2
                begin 2 = 3
                record 7 0 0 = -1
                set 2 7 1
                step 2 = 1
                kill 2 = 1
                clear 7 = 2                          // VOID at 3
                set 1 7 1
                step 1 = 1
                kill 1 = 1
                clear 7 = 2                          // VOID at 2, later, but below the other
                record 7 0 0 = 3
                record 7 1 0 = 2
                set 0 7 -4
                step 0 = 1
                step 0 = 2                           // commit time 4
                step 0 = 4
                record 7 0 0 = 4
                record 7 0 1 = 1
                record 7 0 2 = 1
                record 7 0 3 = -4
                record 7 1 0 = 3
                record 7 1 1 = 3
                record 7 1 2 = 3
                record 7 1 3 = 0
                record 7 2 0 = 2
                record 7 3 0 = -1
                record 7 -1 0 = -1
                record 7 0 4 = -1
                record 7 0 -1 = -1
                record -1 0 0 = -1
                record 12 0 0 = -1
                record 6 0 0 = -1
                begin 0 = 5
                erase 0 7
                step 0 = 1
                step 0 = 2
                step 0 = 4
                record 7 0 2 = 2
                record 7 0 3 = 0
                record 7 0 1 = 5
                crash 1 = 1
                record 7 0 0 = -1
                recover 1 = 1
                record 7 0 0 = 6
                """);
    }

    private static void tablet() {
        Script.run("18 tablet", 20, """
                tablet -1 0 = -1
                tablet 3 0 = -1
                tablet 0 -1 = -1
                tablet 0 3 = -1
                begin 0 = 1
                set 0 3 1
                set 0 4 1
                step 0 = 1
                step 0 = 1
                tablet 0 0 = 1
                tablet 1 0 = 1
                tablet 2 0 = 0
                kill 0 = 1
                clear 4 = 2
                tablet 0 0 = 2
                tablet 1 0 = 2
                sweep 2 = 3
                tablet 0 0 = 3
                tablet 2 0 = 1
                tablet 2 1 = 2
                crash 0 = 1
                tablet 0 0 = 3
                tablet 0 1 = -1
                tablet 0 2 = 3
                recover 0 = 1
                tablet 0 0 = 3
                tablet 0 1 = 2
                """);
        StringBuilder rows = new StringBuilder();
        for (int n = 1; n <= 20; n++) {
            rows.append("begin 0\n kill 0\n sweep " + (n + 1) + " = 3\n tablet 1 0 = " + ((n - 1) % 8 + 1) + "\n tablet 1 2 = " + n + "\n");
        }
        Script.run("18 a log of 8 is emptied", 20, rows.toString());
    }

    private static void oracle() {
        StringBuilder rows = new StringBuilder("oracle -1 = -1\n oracle 3 = -1\n oracle 0 = 1\n oracle 1 = 0\n oracle 2 = 0\n");
        for (int time = 1; time <= 40; time++) {
            rows.append("begin 0 = " + time + "\n kill 0 = 1\n oracle 0 = " + (time + 1) + "\n oracle 1 = " + ((time + 7) / 8 * 8) + "\n");
        }
        rows.append("tick 7 = 7\n oracle 2 = 7\n");
        Script.run("19 oracle", 4, rows.toString());
    }
}
