/**
 * The boundary cases that stand under "What it is" and "Terms", one test for each sentence, named by its words.
 * The methods' own edges are in PromiseEdgesTest.
 */
final class TermsEdgesTest {
    private TermsEdgesTest() {
    }

    public static void main(String[] args) {
        atMost512Calls();
        cellsTabletsClients();
        oracleHandsOut();
        whatWillBeWritten();
        byEntriesAlone();
        entryDone();
        entryVoid();
        entrySweep();
        logOfEight();
        failureOfLock();
        failureOfDone();
        failureOfVoid();
        failureOfSweep();
        failureIsOneEntry();
        hindered();
        comesUpAgain();
        transactionsAreOpen();
        loose();
        clearingByTheDecision();
        clearingByThePrimarysLock();
        clearingWithoutThePrimarysLock();
        clearingThatFails();
        overtaken();
        Script.end();
    }

    /** A whole transaction of client 0, which writes one cell: two entries for its tablet. */
    private static String commit(int cell, int v) {
        return "begin 0\n set 0 " + cell + " " + v + "\n step 0 = 1\n step 0 = 2\n step 0 = 4\n";
    }

    private static void terms(String words, int life, String rows) {
        Script.sentence("Terms", words, life, rows);
    }

    private static void atMost512Calls() {
        String words = "An object is used for at most 512 calls after it has been made";
        StringBuilder rows = new StringBuilder();
        for (int n = 1; n <= 126; n++) {
            rows.append("begin 0 = " + n + "\n set 0 0 1\n step 0 = 1\n kill 0 = 1\n");
        }
        Script.sentence("What it is", words, 20, rows + """
                clear 0 = 2
                record 0 0 0 = 126
                record 0 125 0 = 1
                record 0 126 0 = -1
                tablet 0 0 = 4                       // 252 entries: 31 full logs and 4
                tablet 0 2 = 252
                oracle 0 = 127
                oracle 1 = 128
                """);
        rows.setLength(0);
        for (int n = 1; n <= 100; n++) {
            rows.append(commit(11, n));
        }
        Script.sentence("What it is", words, 20, rows + """
                record 11 0 0 = 200
                record 11 99 0 = 2
                record 11 100 0 = -1
                begin 1 = 201
                get 1 11 = 100
                sweep 201 = 3
                record 11 0 3 = 100
                record 11 1 0 = -1
                begin 2 = 202
                get 2 11 = 100
                tablet 2 2 = 201
                tablet 2 0 = 1
                """);
        Script.sentence("What it is", words, 20, "tick 50\n".repeat(511) + "tick 50 = 25600\n");
        rows.setLength(0);
        for (int n = 0; n < 170; n++) {
            rows.append("begin 0 = " + (8 * n + 1) + "\n failOracle = " + (8 * n + 9) + "\n kill 0 = 1\n");
        }
        Script.sentence("What it is", words, 20, rows + "begin 0 = 1361\n oracle 1 = 1368\n");
    }

    private static void cellsTabletsClients() {
        terms("CELLS 0 .. 11", 4, """
                begin 0 = 1
                set 0 0 5
                set 0 11 6
                get 0 0 = 5
                get 0 11 = 6
                ~ set 0 -1 1 ! IllegalArgumentException
                ~ set 0 12 1 ! IllegalArgumentException
                ~ get 0 -1 ! IllegalArgumentException
                ~ get 0 12 ! IllegalArgumentException
                transaction 0 3 = 2049
                """);
        for (int t = 0; t < 3; t++) {
            StringBuilder rows = new StringBuilder("crash " + t + " = 1\n");
            for (int cell = 0; cell < 12; cell++) {
                rows.append("clear " + cell + (cell >= 4 * t && cell <= 4 * t + 3 ? " ! IllegalStateException\n" : " = 0\n"));
            }
            terms("TABLET t, 0 .. 2, has the cells 4 * t .. 4 * t + 3", 4, rows.toString());
        }
        StringBuilder rows = new StringBuilder("begin 0 = 1\n");
        for (int cell = 0; cell < 12; cell++) {
            rows.append("set 0 " + cell + " 1\n");
        }
        for (int cell = 0; cell < 12; cell++) {
            rows.append("step 0 = 1\n tablet " + cell / 4 + " 2 = " + (cell % 4 + 1) + "\n");
        }
        terms("TABLET t, 0 .. 2, has the cells 4 * t .. 4 * t + 3", 4, rows.toString());
        terms("CLIENTS 0 .. 3", 4, """
                begin 0 = 1
                begin 1 = 2
                begin 2 = 3
                begin 3 = 4
                ~ begin 4 ! IllegalArgumentException
                ~ begin -1 ! IllegalArgumentException
                set 0 0 10
                set 3 0 13
                get 0 0 = 10
                get 3 0 = 13
                get 1 0 ! NoSuchElementException
                """);
        terms("TICKS count the time, 0 at first", 4, """
                oracle 2 = 0
                begin 0 = 1
                set 0 0 1
                step 0 = 1
                lock 0 3 = 0
                """);
    }

    private static void oracleHandsOut() {
        terms("it has a NEXT time, 1 at first, and a LIMIT, 0 at first", 4, """
                oracle 0 = 1
                oracle 1 = 0
                begin 0 = 1
                """);
        StringBuilder rows = new StringBuilder();
        for (int time = 1; time <= 8; time++) {
            rows.append("begin 0 = " + time + "\n oracle 1 = 8\n kill 0 = 1\n");
        }
        terms("if next is above the limit, the limit becomes next + 7", 4, rows + """
                oracle 0 = 9                         // above the limit, but nothing is handed out yet
                oracle 1 = 8
                begin 0 = 9
                oracle 1 = 16
                """);
        terms("if next is above the limit, the limit becomes next + 7", 4, """
                begin 0 = 1
                set 0 0 1
                step 0 = 1
                failOracle = 9
                oracle 1 = 8
                step 0 = 2                           // a commit time is handed out in the same way
                transaction 0 2 = 9
                oracle 1 = 16
                """);
        terms("then it hands out next, and next grows by 1", 4, """
                begin 0 = 1
                oracle 0 = 2
                begin 1 = 2
                oracle 0 = 3
                set 0 0 1
                step 0 = 1
                oracle 0 = 3                         // a prewrite takes none
                step 0 = 2
                transaction 0 2 = 3
                oracle 0 = 4
                step 0 = 4
                oracle 0 = 4
                """);
    }

    private static void whatWillBeWritten() {
        terms("what will be written (a value, or that it is ERASED)", 4, """
                begin 0 = 1
                set 0 0 -2147483648
                set 0 1 2147483647
                set 0 2 0
                set 0 3 -1
                erase 0 4
                step 0 = 1
                step 0 = 1
                step 0 = 1
                step 0 = 1
                step 0 = 1
                lock 0 5 = -2147483648
                lock 1 5 = 2147483647
                lock 2 5 = 0
                lock 3 5 = -1
                lock 4 5 = 0
                step 0 = 2
                step 0 = 3
                step 0 = 5
                step 0 = 5
                step 0 = 5
                step 0 = 6
                record 0 0 2 = 1
                record 1 0 2 = 1
                record 2 0 2 = 1                     // 0 is a value
                record 3 0 2 = 1
                record 4 0 2 = 2
                begin 1 = 3
                get 1 0 = -2147483648
                get 1 1 = 2147483647
                get 1 2 = 0
                get 1 3 = -1                         // and so is what NONE is
                get 1 4 ! NoSuchElementException
                """);
        terms("the latest for each cell", 4, """
                begin 0 = 1
                set 0 0 7
                erase 0 0
                erase 0 1
                set 0 1 8
                set 0 2 1
                set 0 2 9
                step 0 = 1
                step 0 = 1
                step 0 = 1
                lock 0 5 = 0
                lock 1 5 = 8
                lock 2 5 = 9
                step 0 = 2
                step 0 = 3
                step 0 = 5
                step 0 = 6
                record 0 0 2 = 2
                record 1 0 2 = 1
                record 2 0 3 = 9
                record 2 1 0 = -1
                begin 0 = 3                          // nothing of an earlier transaction is left
                transaction 0 3 = 0
                get 0 1 = 8
                """);
    }

    private static void byEntriesAlone() {
        terms("A tablet is changed by entries alone, each for one of its cells, or for all", 1, """
                begin 0 = 1
                set 0 0 1
                set 0 4 2
                step 0 = 1
                step 0 = 1
                step 0 = 2
                tick 9 = 9
                kill 0 = 1
                failOracle = 9
                begin 0 = 9
                erase 0 0
                crash 0 = 1
                recover 0 = 1
                fail 1 2 true = 1
                tablet 0 2 = 1
                tablet 1 2 = 1
                tablet 2 2 = 0
                lock 0 0 = 1                         // loose locks stay until they are cleared
                lock 4 0 = 1
                record 0 0 0 = -1
                clear 0 = 2
                lock 4 0 = 1                         // an entry for one cell is for that one alone
                record 4 0 0 = -1
                record 1 0 0 = -1
                """);
    }

    private static void entryDone() {
        terms("DONE (start, at): the cell has its lock no more, and what that was to write becomes a record with this start, at that time", 4, """
                begin 0 = 1
                begin 1 = 2
                set 0 6 -3
                step 0 = 1
                step 0 = 2
                step 0 = 4
                lock 6 0 = -1
                record 6 0 0 = 3
                record 6 0 1 = 1
                record 6 0 2 = 1
                record 6 0 3 = -3
                record 6 1 0 = -1
                """);
    }

    private static void entryVoid() {
        terms("VOID (start): the cell has a lock with this start no more", 4, """
                begin 1 = 1
                begin 0 = 2
                set 0 6 -3
                step 0 = 1
                kill 0 = 1
                clear 6 = 2
                lock 6 0 = -1
                record 6 0 0 = 2                     // at the time start
                record 6 0 1 = 2
                record 6 0 2 = 3
                record 6 0 3 = 0
                record 6 1 0 = -1
                """);
    }

    private static void entrySweep() {
        terms("SWEEP (w): the watermark becomes w", 4, """
                begin 0 = 1
                kill 0 = 1
                sweep 1 = 3
                tablet 0 1 = 1
                tablet 1 1 = 1
                tablet 2 1 = 1
                sweep 2 = 3
                tablet 0 1 = 2
                tablet 1 1 = 2
                tablet 2 1 = 2
                """);
        terms("of each cell the records VOID at times below w go", 4, commit(4, 8) + """
                begin 0 = 3
                set 0 4 1
                set 0 7 1
                step 0 = 1
                step 0 = 1
                kill 0 = 1
                clear 7 = 2
                sweep 3 = 3
                record 4 0 0 = 3                     // not below 3
                record 7 0 0 = 3
                sweep 4 = 3
                record 4 0 0 = 2                     // the VOID was not the latest of the others
                record 4 1 0 = -1
                record 7 0 0 = -1
                """);
        terms("and of the others those at times below w but the latest of them", 4, commit(8, 1) + commit(8, 2) + commit(8, 3) + """
                sweep 4 = 3                          // records at 2, 4 and 6
                record 8 2 0 = 2
                sweep 5 = 3
                record 8 0 0 = 6
                record 8 1 0 = 4
                record 8 2 0 = -1
                sweep 6 = 3
                record 8 1 0 = 4
                sweep 7 = 3
                record 8 0 0 = 6
                record 8 0 3 = 3
                record 8 1 0 = -1
                """);
        terms("and of the others those at times below w but the latest of them", 4, commit(0, 1)
                + "begin 0 = 3\n erase 0 0\n step 0 = 1\n step 0 = 2\n step 0 = 4\n" + commit(0, 3) + """
                sweep 7 = 3                          // one ERASED goes that is not the latest
                record 0 0 0 = 6
                record 0 1 0 = -1
                """);
        terms("and that too if it is ERASED", 4, commit(3, 1) + """
                begin 0 = 3
                erase 0 3
                step 0 = 1
                step 0 = 2
                step 0 = 4
                sweep 4 = 3
                record 3 0 0 = 4
                record 3 1 0 = 2
                sweep 5 = 3
                record 3 0 0 = -1                    // and the one before it does not come back
                begin 1 = 5
                get 1 3 ! NoSuchElementException
                """);
        terms("and that too if it is ERASED", 4, """
                begin 0 = 1
                erase 0 3
                step 0 = 1
                step 0 = 2
                step 0 = 4
                """ + commit(3, 5) + """
                sweep 4 = 3                          // ERASED at 2 is the latest below 4, PUT at 4 stays
                record 3 0 0 = 4
                record 3 1 0 = -1
                """);
    }

    private static void logOfEight() {
        String words = "a log of 8 is emptied before";
        terms(words, 4, commit(0, 1).repeat(3) + """
                begin 0 = 7
                set 0 1 4
                step 0 = 1
                tablet 0 0 = 7
                step 0 = 2
                step 0 = 4
                tablet 0 0 = 8                       // full
                begin 0 = 9
                set 0 2 5
                step 0 = 1                           // LOCK is the ninth
                tablet 0 0 = 1
                tablet 0 2 = 9
                lock 2 0 = 9
                """);
        terms(words, 4, commit(0, 1).repeat(3) + """
                begin 0 = 7
                set 0 0 4
                set 0 1 5
                step 0 = 1
                step 0 = 1
                tablet 0 0 = 8
                step 0 = 2
                step 0 = 3                           // DONE is the ninth
                tablet 0 0 = 1
                lock 1 0 = 7
                record 0 0 0 = 8
                record 0 3 0 = 2
                """);
        terms(words, 4, commit(0, 1).repeat(3) + """
                begin 0 = 7
                set 0 0 4
                set 0 1 5
                step 0 = 1
                step 0 = 1
                kill 0 = 1
                clear 0 = 2                          // VOID is the ninth
                tablet 0 0 = 1
                lock 1 0 = 7
                record 0 0 2 = 3
                """);
        terms(words, 4, commit(0, 1).repeat(4) + """
                sweep 9 = 3                          // SWEEP is the ninth
                tablet 0 0 = 1
                tablet 1 0 = 1
                tablet 0 1 = 9
                record 0 0 0 = 8
                record 0 1 0 = -1
                """);
        terms("what was in it is in the tablet's image by then", 4, commit(0, 1) + commit(1, 2) + commit(2, 3) + """
                begin 0 = 7
                set 0 2 4
                set 0 3 5
                step 0 = 1
                step 0 = 1
                step 0 = 2
                step 0 = 3
                tablet 0 0 = 1
                crash 0 = 1
                recover 0 = 1
                tablet 0 0 = 1                       // coming up does not empty it
                record 0 0 3 = 1
                record 1 0 3 = 2
                record 2 0 3 = 4
                record 2 1 3 = 3
                lock 3 0 = 7
                """);
        for (int whole = 0; whole < 2; whole++) {
            terms(words, 4, commit(0, 1).repeat(4) + """
                    begin 0 = 9
                    set 0 0 5
                    fail 0 1 %s = 1
                    step 0 ! IllegalStateException
                    tablet 0 0 = %d                  // emptied before the one that fails too
                    tablet 0 2 = 9
                    """.formatted(whole == 1, whole));
        }
    }

    private static void failureOfLock() {
        String words = "the entry is in the log (whole) or is not; whoever wrote it does not know";
        String rows = """
                begin 0 = 1
                set 0 4 7
                fail 1 1 %s = 1
                step 0 ! IllegalStateException
                tablet 1 1 = -1                      // the tablet goes down
                tablet 0 1 = 0
                tablet 2 1 = 0
                tablet 1 2 = 1
                transaction 0 4 = 0
                """;
        terms(words, 20, rows.formatted("true") + """
                tablet 1 0 = 1
                recover 1 = 1
                lock 4 0 = 1
                transaction 0 4 = 0
                tick 3 = 3
                step 0 = 1                           // a lock with its own start
                tablet 1 2 = 1
                lock 4 3 = 0
                transaction 0 4 = 16
                """);
        terms(words, 20, rows.formatted("false") + """
                tablet 1 0 = 0
                recover 1 = 1
                lock 4 0 = -1
                tick 3 = 3
                step 0 = 1
                tablet 1 0 = 1
                tablet 1 2 = 2
                lock 4 3 = 3
                """);
    }

    private static void failureOfDone() {
        String words = "the entry is in the log (whole) or is not; whoever wrote it does not know";
        String decides = """
                begin 0 = 1
                set 0 4 7
                step 0 = 1
                step 0 = 2
                fail 1 1 %s = 1
                step 0 ! IllegalStateException
                transaction 0 0 = 2
                transaction 0 5 = 0
                recover 1 = 1
                """;
        terms(words, 20, decides.formatted("true") + """
                lock 4 0 = -1
                record 4 0 0 = 2
                step 0 = 4
                tablet 1 2 = 2
                record 4 1 0 = -1
                """);
        terms(words, 20, decides.formatted("false") + """
                lock 4 0 = 1
                record 4 0 0 = -1
                step 0 = 4
                tablet 1 2 = 3
                record 4 0 0 = 2
                """);
        String follows = """
                begin 0 = 1
                set 0 0 6
                set 0 4 7
                step 0 = 1
                step 0 = 1
                step 0 = 2
                step 0 = 3
                fail 1 1 %s = 1
                step 0 ! IllegalStateException
                transaction 0 0 = 2
                recover 1 = 1
                """;
        terms(words, 20, follows.formatted("true") + """
                lock 4 0 = -1
                record 4 0 0 = 2
                step 0 = 6
                tablet 1 2 = 2
                """);
        terms(words, 20, follows.formatted("false") + """
                lock 4 0 = 1
                record 4 0 0 = -1
                step 0 = 6
                tablet 1 2 = 3
                """);
    }

    private static void failureOfVoid() {
        String words = "the entry is in the log (whole) or is not; whoever wrote it does not know";
        String rows = """
                begin 0 = 1
                set 0 4 7
                step 0 = 1
                kill 0 = 1
                fail 1 1 %s = 1
                clear 4 ! IllegalStateException
                tablet 1 1 = -1
                tablet 1 2 = 2
                recover 1 = 1
                """;
        terms(words, 20, rows.formatted("true") + """
                lock 4 0 = -1
                record 4 0 2 = 3
                clear 4 = 0
                """);
        terms(words, 20, rows.formatted("false") + """
                lock 4 0 = 1
                record 4 0 2 = -1
                clear 4 = 2
                """);
    }

    private static void failureOfSweep() {
        String words = "the entry is in the log (whole) or is not; whoever wrote it does not know";
        String rows = commit(4, 1) + commit(4, 2) + """
                fail 1 1 %s = 1
                sweep 5 = %d
                tablet 1 1 = -1
                tablet 2 2 = 0
                recover 1 = 1
                """;
        terms(words, 20, rows.formatted("true", 2) + """
                tablet 1 1 = 5
                record 4 0 0 = 4
                record 4 1 0 = -1
                """);
        terms(words, 20, rows.formatted("false", 1) + """
                tablet 1 1 = 0
                record 4 0 0 = 4
                record 4 1 0 = 2
                """);
    }

    private static void failureIsOneEntry() {
        terms("A FAILURE can be set for one of a tablet's next entries", 20, """
                fail 1 3 false = 1
                begin 0 = 1
                set 0 0 1
                set 0 1 1
                set 0 2 1
                set 0 4 1
                set 0 5 1
                set 0 6 1
                step 0 = 1
                step 0 = 1
                step 0 = 1                           // entries of another tablet do not count
                step 0 = 1
                step 0 = 1
                step 0 ! IllegalStateException
                tablet 1 0 = 2
                tablet 1 2 = 3
                recover 1 = 1
                step 0 = 1                           // it was for one alone
                step 0 = 2
                step 0 = 3
                step 0 = 5
                step 0 = 5
                step 0 = 5
                step 0 = 5
                step 0 = 6
                tablet 1 2 = 7
                """);
        terms("A FAILURE can be set for one of a tablet's next entries", 20, """
                fail 1 2 true = 1
                sweep 1 = 3                          // a SWEEP is an entry as well
                begin 0 = 1
                set 0 4 1
                step 0 ! IllegalStateException
                """);
        terms("A FAILURE can be set for one of a tablet's next entries", 20, """
                begin 0 = 1
                set 0 4 1
                step 0 = 1
                kill 0 = 1
                fail 1 2 true = 1
                clear 4 = 2                          // a VOID too
                sweep 2 = 2
                """);
    }

    private static void hindered() {
        String words = "What needs a tablet that is down is HINDERED";
        terms(words, 4, """
                begin 0 = 1
                begin 1 = 2
                set 0 0 1
                set 0 4 2
                crash 0 = 1
                step 0 ! IllegalStateException       // a prewrite
                ~ step 0 ! IllegalStateException
                recover 0 = 1
                step 0 = 1
                step 0 = 1
                crash 0 = 1
                ~ clear 4 ! IllegalStateException    // a clearing
                ~ clear 0 ! IllegalStateException
                step 0 = 2                           // a time needs no tablet
                ~ step 0 ! IllegalStateException     // a decision
                recover 0 = 1
                step 0 = 3
                crash 1 = 1
                ~ step 0 ! IllegalStateException     // following
                ~ get 1 4 ! IllegalStateException    // a reading
                recover 1 = 1
                step 0 = 6
                """);
        terms(words, 4, """
                crash 0 = 1
                crash 1 = 1
                crash 2 = 1
                begin 0 = 1                          // what needs no tablet is not
                set 0 0 5
                erase 0 11
                get 0 0 = 5
                begin 1 = 2
                step 1 = 7
                kill 0 = 1
                tick 1 = 1
                failOracle = 9
                """);
        terms(words, 4, """
                crash 1 = 1
                begin 0 = 1
                set 0 3 1
                set 0 8 1
                step 0 = 1                           // nor what needs others alone
                step 0 = 1
                step 0 = 2
                step 0 = 3
                step 0 = 6
                """);
    }

    private static void comesUpAgain() {
        terms("When a tablet comes up again, what is in its log is in force", 20, commit(0, 6) + """
                begin 0 = 3
                set 0 0 7
                set 0 3 8
                step 0 = 1
                fail 0 1 true = 1
                step 0 ! IllegalStateException
                sweep 1 = -1
                recover 0 = 1
                lock 0 0 = 3
                lock 0 5 = 7
                lock 3 0 = 3
                lock 3 1 = 0
                lock 3 5 = 8
                record 0 0 3 = 6
                tablet 0 0 = 4
                sweep 1 = 3
                crash 0 = 1
                recover 0 = 1
                tablet 0 1 = 1
                """);
    }

    private static void transactionsAreOpen() {
        terms("A TRANSACTION of a client is OPEN from its beginning to its end", 20, """
                transaction 0 0 = 0
                begin 0 = 1
                transaction 0 0 = 1
                set 0 0 1
                step 0 = 1
                transaction 0 0 = 2
                step 0 = 2
                transaction 0 0 = 2
                step 0 = 4
                transaction 0 0 = 0
                """);
        terms("It is READING until its first step, then COMMITTING", 20, """
                begin 0 = 1
                set 0 0 1
                get 0 1 ! NoSuchElementException
                transaction 0 0 = 1
                step 0 = 1
                transaction 0 0 = 2
                ~ get 0 0 ! IllegalStateException
                ~ set 0 0 1 ! IllegalStateException
                ~ erase 0 0 ! IllegalStateException
                """);
        terms("Its PRIMARY is the least cell that it writes", 20, """
                begin 0 = 1
                set 0 11 1
                set 0 4 1
                erase 0 2                            // the least, though written last and erased
                step 0 = 1
                step 0 = 1
                step 0 = 1
                lock 2 1 = 2
                lock 4 1 = 2
                lock 11 1 = 2
                begin 1 = 2
                set 1 10 1
                step 1 = 1
                lock 10 1 = 10
                begin 2 = 3
                set 2 0 1
                step 2 = 1
                lock 0 1 = 0
                """);
    }

    private static void loose() {
        String words = "as many ticks have passed since it was made as a lock lives, or more";
        for (int life : new int[] {1, 2, 7, 20}) {
            terms(words, life, """
                    tick 5 = 5
                    begin 0 = 1
                    set 0 3 7
                    step 0 = 1
                    tick %d
                    lock 3 4 = 0                     // one tick less
                    ~ clear 3 ! IllegalStateException
                    tick 1
                    lock 3 4 = 1                     // as many
                    tick 1
                    lock 3 4 = 1                     // more
                    clear 3 = 2
                    """.formatted(life - 1));
        }
        terms("A lock is LOOSE if its client has no open transaction with its start", 20, """
                begin 0 = 1
                set 0 3 7
                step 0 = 1
                lock 3 4 = 0
                step 0 = 2
                lock 3 4 = 0
                kill 0 = 1
                lock 3 4 = 1                         // none is open
                begin 0 = 3
                lock 3 4 = 1                         // one with another start is
                begin 1 = 4
                set 1 3 8
                step 1 = 1
                lock 3 0 = 4
                lock 3 4 = 0
                """);
        terms("A lock is LOOSE if its client has no open transaction with its start", 20, """
                begin 0 = 1
                begin 1 = 2
                set 1 5 1
                step 1 = 1
                step 1 = 2
                step 1 = 4
                set 0 3 7
                set 0 5 7
                step 0 = 1
                lock 3 4 = 0
                step 0 = 0                           // ended by a conflict
                lock 3 4 = 1
                """);
    }

    private static void clearingByTheDecision() {
        terms("hindered, if the tablet of p is down", 1, """
                begin 0 = 1
                set 0 3 1
                set 0 4 2
                step 0 = 1
                step 0 = 1
                kill 0 = 1
                crash 0 = 1
                ~ clear 4 ! IllegalStateException    // loose or not
                begin 1 = 2
                ~ get 1 4 ! IllegalStateException
                set 1 4 1
                step 1 ! IllegalStateException
                ~ step 1 ! IllegalStateException
                crash 2 = 1                          // a third one does not matter
                recover 0 = 1
                clear 4 = 2
                """);
        String words = "If p has a record with the start s, PUT or ERASED, at the time w: DONE (s, w) is written for the cell";
        for (String write : new String[] {"set 0 3 1", "erase 0 3"}) {
            terms(words, 20, "begin 0 = 1\n" + write + """

                    set 0 4 2
                    step 0 = 1
                    step 0 = 1
                    begin 1 = 2
                    step 0 = 2
                    ~ clear 4 ! IllegalStateException    // not decided yet
                    step 0 = 3
                    lock 4 4 = 0
                    clear 4 = 1                      // though its own lock is not loose
                    record 4 0 0 = 3
                    record 4 0 1 = 1
                    record 4 0 2 = 1
                    record 4 0 3 = 2
                    tablet 1 2 = 2
                    tablet 0 2 = 2
                    """);
        }
        terms(words, 20, """
                begin 0 = 1
                set 0 3 1
                erase 0 4
                step 0 = 1
                step 0 = 1
                step 0 = 2
                step 0 = 3
                kill 0 = 1
                clear 4 = 1                          // what the lock was to write
                record 4 0 2 = 2
                """);
        terms(words, 20, commit(3, 9) + """
                begin 0 = 3
                set 0 3 1
                set 0 4 1
                step 0 = 1
                step 0 = 1
                kill 0 = 1
                clear 4 = 2                          // a record of p with another start does not decide
                """);
    }

    private static void clearingByThePrimarysLock() {
        terms("if p has a lock with the start s: HELD, if that is not loose", 5, """
                begin 0 = 1
                set 0 0 1
                set 0 4 2
                step 0 = 1
                tick 4 = 4
                step 0 = 1
                ~ clear 4 ! IllegalStateException
                ~ clear 0 ! IllegalStateException
                tick 1 = 5
                lock 0 4 = 1
                lock 4 4 = 0
                clear 4 = 2                          // the lock of p counts, not the cell's
                lock 0 0 = -1
                """);
        terms("VOID (s) is written for p, and, if the cell is another one, for the cell then", 5, """
                begin 1 = 1
                begin 0 = 2
                set 0 1 1
                set 0 4 2
                set 0 8 3
                step 0 = 1
                step 0 = 1
                step 0 = 1
                kill 0 = 1
                clear 4 = 2
                tablet 0 2 = 2
                tablet 1 2 = 2
                tablet 2 2 = 1
                lock 1 0 = -1
                lock 4 0 = -1
                lock 8 0 = 2                         // others are left
                record 1 0 0 = 2
                record 1 0 1 = 2
                record 1 0 2 = 3
                record 4 0 0 = 2
                record 4 0 1 = 2
                record 4 0 2 = 3
                """);
        terms("VOID (s) is written for p, and, if the cell is another one, for the cell then", 5, """
                begin 0 = 1
                set 0 1 1
                set 0 2 2
                step 0 = 1
                step 0 = 1
                kill 0 = 1
                clear 1 = 2                          // the cell is p: once alone
                tablet 0 2 = 3
                record 1 0 2 = 3
                record 1 1 2 = -1
                lock 2 0 = 1
                """);
    }

    private static void clearingWithoutThePrimarysLock() {
        String words = "Otherwise VOID (s) is written for the cell";
        terms(words, 20, """
                begin 0 = 1
                set 0 1 1
                set 0 4 2
                step 0 = 1
                step 0 = 1
                kill 0 = 1
                clear 1 = 2
                tablet 0 2 = 2
                clear 4 = 2                          // p has neither
                tablet 0 2 = 2
                record 1 1 0 = -1
                record 4 0 2 = 3
                """);
        terms(words, 2, """
                begin 0 = 1
                begin 1 = 2
                set 0 1 1
                set 0 4 2
                step 0 = 1
                tick 2 = 2
                clear 1 = 2
                step 0 = 1
                set 1 1 9
                step 1 = 1
                lock 4 4 = 0
                clear 4 = 2                          // p has another's lock, which is not loose, and keeps it
                lock 1 0 = 2
                tablet 0 2 = 3
                tablet 1 2 = 2
                """);
    }

    private static void clearingThatFails() {
        String words = "Hindered, when one of the entries fails; nothing further is written then";
        String start = """
                begin 0 = 1
                set 0 0 1
                set 0 1 2
                set 0 4 3
                step 0 = 1
                step 0 = 1
                step 0 = 1
                """;
        for (String whole : new String[] {"true", "false"}) {
            terms(words, 20, start + """
                    kill 0 = 1
                    fail 0 1 %s = 1
                    clear 4 ! IllegalStateException  // the VOID for p
                    tablet 0 2 = 3
                    tablet 1 2 = 1
                    lock 4 0 = 1
                    recover 0 = 1
                    lock 0 0 = %d
                    """.formatted(whole, whole.equals("true") ? -1 : 1));
            terms(words, 20, start + """
                    kill 0 = 1
                    fail 0 1 %s = 1
                    clear 1 ! IllegalStateException  // the VOID for p, in the same tablet
                    tablet 0 2 = 3
                    recover 0 = 1
                    lock 1 0 = 1
                    record 1 0 0 = -1
                    """.formatted(whole));
            terms(words, 20, start + """
                    kill 0 = 1
                    fail 1 1 %s = 1
                    clear 4 ! IllegalStateException  // the VOID for the cell
                    tablet 0 2 = 3
                    lock 0 0 = -1
                    record 0 0 2 = 3
                    recover 1 = 1
                    lock 4 0 = %d
                    """.formatted(whole, whole.equals("true") ? -1 : 1));
            terms(words, 20, start + """
                    step 0 = 2
                    step 0 = 3
                    kill 0 = 1
                    begin 1 = 3
                    fail 1 1 %s = 1
                    get 1 4 ! IllegalStateException  // the DONE for the cell
                    tablet 1 2 = 2
                    recover 1 = 1
                    lock 4 0 = %d
                    get 1 4 = 3
                    """.formatted(whole, whole.equals("true") ? -1 : 1));
            terms(words, 20, start + """
                    kill 0 = 1
                    begin 1 = 2
                    set 1 4 9
                    fail 1 1 %s = 1
                    step 1 ! IllegalStateException   // no LOCK is written behind it
                    tablet 1 2 = 2
                    recover 1 = 1
                    lock 4 0 = %d
                    step 1 = 1
                    lock 4 0 = 2
                    """.formatted(whole, whole.equals("true") ? -1 : 1));
        }
    }

    private static void overtaken() {
        String words = "a record PUT or ERASED at a time above its start";
        for (String write : new String[] {"set 0 5 1", "erase 0 5"}) {
            terms(words, 20, "begin 0 = 1\n begin 1 = 2\n" + write + """

                    step 0 = 1
                    step 0 = 2
                    step 0 = 4                       // at 3, which is the first above 2
                    set 1 5 9
                    step 1 = 0
                    """);
            terms(words, 20, "begin 0 = 1\n" + write + """

                    step 0 = 1
                    step 0 = 2
                    step 0 = 4
                    begin 1 = 3
                    set 1 5 9
                    step 1 = 1                       // at 2, which is the last below 3
                    """);
        }
        terms(words, 20, """
                begin 1 = 1
                begin 2 = 2
                begin 0 = 3
                set 0 5 1
                step 0 = 1
                step 0 = 2
                step 0 = 4
                begin 0 = 5
                set 0 5 1
                step 0 = 1
                kill 0 = 1
                clear 5 = 2
                set 1 5 9
                step 1 = 0                           // by one that is not the latest record
                set 2 4 9
                step 2 = 1                           // a record of another cell does not matter
                """);
        terms("or a record VOID with its start", 2, """
                begin 0 = 1
                set 0 5 1
                fail 1 1 true = 1
                step 0 ! IllegalStateException
                recover 1 = 1
                tick 2 = 2
                clear 5 = 2
                step 0 = 0
                """);
        terms("or a record VOID with its start", 20, """
                begin 0 = 1
                begin 1 = 2
                set 1 5 1
                step 1 = 1
                kill 1 = 1
                clear 5 = 2
                begin 1 = 3
                set 0 5 1
                step 0 = 1                           // VOID with a start above
                kill 0 = 1
                set 1 5 1
                step 1 = 1                           // VOID with starts below
                """);
    }
}
