/**
 * The boundary cases of promises 14 to 19 (sweep, and the methods that look at the state and change nothing), one test
 * for each sentence, named by the promise and its words.
 */
final class SweepAndLookEdgesTest {
    private SweepAndLookEdgesTest() {
    }

    public static void main(String[] args) {
        sweepIsWritten();
        sweepFails();
        sweepRefusesNumbers();
        sweepRefusesTablets();
        sweepRefusesLocks();
        sweepRefusesCommitting();
        transactionAnswers();
        transactionRefuses();
        lockAnswers();
        lockRefuses();
        recordAnswers();
        recordRefuses();
        tablet();
        oracle();
        Script.end();
    }

    private static void promise(int number, String words, int life, String rows) {
        Script.sentence("Promise " + number, words, life, rows);
    }

    private static String commit(int cell, int v) {
        return "begin 0\n set 0 " + cell + " " + v + "\n step 0 = 1\n step 0 = 2\n step 0 = 4\n";
    }

    private static void sweepIsWritten() {
        promise(14, "SWEEP (w) is written for each tablet, the lesser first, until one fails: how many are in force then", 4, """
                begin 0 = 1
                sweep 2 = 3
                tablet 0 0 = 1
                tablet 1 0 = 1
                tablet 2 0 = 1
                tablet 0 1 = 2
                tablet 1 1 = 2
                tablet 2 1 = 2
                tablet 0 2 = 1
                tablet 1 2 = 1
                tablet 2 2 = 1
                """);
        promise(14, "(transactions that are reading do not matter)", 4, """
                begin 0 = 1
                begin 1 = 2
                set 1 0 5                            // with writes or without
                sweep 3 = 3
                transaction 0 0 = 1
                transaction 1 0 = 1
                get 1 0 = 5
                """);
    }

    private static void sweepFails() {
        for (int t = 0; t < 3; t++) {
            for (int whole = 0; whole < 2; whole++) {
                int inForce = t + whole;
                StringBuilder rows = new StringBuilder("begin 0 = 1\n fail " + t + " 1 " + (whole == 1) + " = 1\n");
                rows.append("sweep 2 = " + inForce + "\n tablet " + t + " 1 = -1\n recover " + t + " = 1\n");
                for (int i = 0; i < 3; i++) {
                    rows.append("tablet " + i + " 1 = " + (i < inForce ? 2 : 0) + "\n");
                    rows.append("tablet " + i + " 0 = " + (i < inForce ? 1 : 0) + "\n");
                    rows.append("tablet " + i + " 2 = " + (i <= t ? 1 : 0) + "\n");
                }
                promise(14, whole == 1 ? "(One that failed, but whole, counts.)" : "until one fails: how many are in force then", 4, rows.toString());
            }
        }
        promise(14, "until one fails: how many are in force then", 4, """
                begin 0 = 1
                fail 1 2 false = 1
                fail 2 2 false = 1
                sweep 1 = 3                          // a failure that is not due yet
                sweep 2 = 1
                tablet 1 1 = -1
                tablet 2 1 = 1                       // the third was not asked
                tablet 2 2 = 1
                """);
    }

    private static void sweepRefusesNumbers() {
        promise(14, "NONE, and nothing is written, when w is below 1", 4, """
                ~ sweep 0 = -1
                ~ sweep -1 = -1
                ~ sweep -2147483648 = -1
                begin 0 = 1
                ~ sweep 0 = -1
                sweep 1 = 3                          // 1 is the least
                """);
        promise(14, "not above the greatest watermark", 4, """
                begin 0 = 1
                begin 1 = 2
                begin 2 = 3
                sweep 2 = 3
                ~ sweep 2 = -1
                ~ sweep 1 = -1
                sweep 3 = 3
                ~ sweep 3 = -1
                sweep 4 = 3
                """);
        for (int t = 0; t < 3; t++) {
            for (int whole = 0; whole < 2 && t + whole > 0; whole++) {
                promise(14, "not above the greatest watermark", 4, """
                        begin 0 = 1
                        begin 1 = 2
                        begin 2 = 3
                        fail %1$d 1 %2$s = 1
                        sweep 3 = %3$d               // the lesser tablets alone have it
                        recover %1$d = 1
                        ~ sweep 1 = -1
                        ~ sweep 2 = -1
                        ~ sweep 3 = -1
                        sweep 4 = 3
                        """.formatted(t, whole == 1, t + whole));
            }
        }
        promise(14, "not above the greatest watermark", 4, """
                begin 0 = 1
                begin 1 = 2
                fail 0 1 false = 1
                sweep 3 = 0
                recover 0 = 1
                sweep 2 = 3                          // where none is in force, no watermark is there
                """);
        promise(14, "or above the oracle's next", 4, """
                ~ sweep 2 = -1
                sweep 1 = 3                          // next itself
                begin 0 = 1
                begin 1 = 2
                ~ sweep 4 = -1
                ~ sweep 2147483647 = -1
                sweep 3 = 3
                failOracle = 9
                ~ sweep 10 = -1
                sweep 9 = 3
                ~ sweep 17 = -1                      // the limit does not matter
                """);
    }

    private static void sweepRefusesTablets() {
        for (int t = 0; t < 3; t++) {
            promise(14, "a tablet is down", 4, """
                    begin 0 = 1
                    crash %1$d = 1
                    ~ sweep 1 = -1
                    ~ sweep 2 = -1
                    recover %1$d = 1
                    sweep 2 = 3
                    """.formatted(t));
        }
    }

    private static void sweepRefusesLocks() {
        for (int cell = 0; cell < 12; cell++) {
            promise(14, "some cell has a lock with a start below w", 4, """
                    begin 0 = 1
                    kill 0 = 1
                    begin 0 = 2
                    set 0 %1$d 1
                    step 0 = 1
                    kill 0 = 1
                    begin 0 = 3
                    ~ sweep 3 = -1                   // 2 is the last below 3, though it is loose
                    ~ sweep 4 = -1
                    sweep 2 = 3                      // and not below 2
                    lock %1$d 0 = 2
                    ~ sweep 3 = -1
                    clear %1$d = 2
                    sweep 3 = 3
                    """.formatted(cell));
        }
    }

    private static void sweepRefusesCommitting() {
        for (int c = 0; c < 4; c++) {
            promise(14, "or an open transaction that is committing has a start below w", 4, """
                    begin %1$d = 1
                    kill %1$d = 1
                    begin %1$d = 2
                    set %1$d 0 1
                    begin %2$d = 3
                    crash 0 = 1
                    step %1$d ! IllegalStateException
                    recover 0 = 1
                    lock 0 0 = -1
                    ~ sweep 3 = -1                   // without a lock as yet
                    ~ sweep 4 = -1
                    sweep 2 = 3
                    ~ sweep 3 = -1
                    kill %1$d = 1
                    sweep 4 = 3
                    """.formatted(c, (c + 1) % 4));
        }
        promise(14, "or an open transaction that is committing has a start below w", 4, """
                begin 0 = 1
                set 0 0 1
                set 0 4 1
                step 0 = 1
                step 0 = 1
                step 0 = 2
                step 0 = 3
                clear 4 = 1
                ~ sweep 2 = -1                       // its locks are gone, but it is open
                step 0 = 6
                sweep 3 = 3
                """);
    }

    private static void transactionAnswers() {
        promise(15, "0 none is open, 1 reading, 2 committing", 4, """
                ~ transaction 0 0 = 0
                begin 0 = 1
                ~ transaction 0 0 = 1
                ~ transaction 1 0 = 0
                set 0 0 1
                set 0 4 1
                ~ transaction 0 0 = 1
                step 0 = 1
                ~ transaction 0 0 = 2
                step 0 = 1
                step 0 = 2
                transaction 0 0 = 2
                step 0 = 3
                transaction 0 0 = 2
                step 0 = 6
                ~ transaction 0 0 = 0
                """);
        promise(15, "the sum of 2^cell over the cells that it writes", 4, """
                begin 0 = 1
                transaction 0 3 = 0                  // none
                set 0 0 1
                transaction 0 3 = 1
                erase 0 11
                transaction 0 3 = 2049
                set 0 0 2
                transaction 0 3 = 2049               // each once
                set 0 1 1
                set 0 2 1
                set 0 3 1
                set 0 4 1
                set 0 5 1
                set 0 6 1
                set 0 7 1
                set 0 8 1
                set 0 9 1
                set 0 10 1
                transaction 0 3 = 4095               // all
                transaction 0 4 = 0
                step 0 = 1
                transaction 0 4 = 1
                """);
        promise(15, "4 over those that were prewritten", 2, """
                begin 0 = 1
                set 0 0 1
                set 0 4 1
                fail 1 1 true = 1
                transaction 0 4 = 0
                step 0 = 1
                transaction 0 4 = 1
                step 0 ! IllegalStateException
                transaction 0 4 = 1                  // a lock that it does not know of
                recover 1 = 1
                tick 2 = 2
                clear 0 = 2
                transaction 0 4 = 1                  // it was, though its lock is gone
                step 0 = 1
                transaction 0 4 = 17
                """);
        promise(15, "0 for 1 to 5 when there is none (yet)", 4, """
                begin 3 = 1
                kill 3 = 1
                ~ transaction 3 1 = 0
                ~ transaction 3 2 = 0
                ~ transaction 3 3 = 0
                ~ transaction 3 4 = 0
                ~ transaction 3 5 = 0
                begin 3 = 2
                transaction 3 1 = 2
                transaction 3 2 = 0
                transaction 3 3 = 0
                transaction 3 4 = 0
                transaction 3 5 = 0
                set 3 0 1
                set 3 1 1
                step 3 = 1
                step 3 = 1
                transaction 3 2 = 0
                step 3 = 2
                transaction 3 2 = 3
                transaction 3 5 = 0
                step 3 = 3
                transaction 3 5 = 1
                transaction 3 1 = 2
                transaction 3 2 = 3
                transaction 3 3 = 3
                transaction 3 4 = 3
                kill 3 = 1
                transaction 3 1 = 0
                transaction 3 2 = 0
                transaction 3 3 = 0
                transaction 3 4 = 0
                transaction 3 5 = 0
                """);
    }

    private static void transactionRefuses() {
        promise(15, "NONE when there is no such client or what is none of these", 4, """
                ~ transaction -1 0 = -1
                ~ transaction 4 0 = -1
                ~ transaction 0 -1 = -1
                ~ transaction 0 6 = -1
                begin 0 = 1
                begin 3 = 2
                transaction -1 1 = -1
                transaction 4 1 = -1
                transaction -2147483648 1 = -1
                transaction 2147483647 1 = -1
                transaction 0 -1 = -1
                transaction 0 6 = -1
                transaction 3 -2147483648 = -1
                transaction 3 2147483647 = -1
                transaction 3 1 = 2
                transaction 3 5 = 0
                """);
    }

    private static void lockAnswers() {
        promise(16, "0 its start, 1 its primary, 2 its client, 3 its tick, 4 whether it is loose", 2, """
                begin 2 = 1
                begin 3 = 2
                set 3 11 -8
                set 3 7 1
                tick 5 = 5
                step 3 = 1
                tick 1 = 6
                step 3 = 1
                ~ lock 11 0 = 2
                ~ lock 11 1 = 7
                ~ lock 11 2 = 3
                ~ lock 11 3 = 6
                ~ lock 11 4 = 0
                ~ lock 11 5 = -8
                lock 7 1 = 7
                lock 7 3 = 5
                tick 1 = 7
                ~ lock 7 4 = 1
                lock 11 4 = 0
                tick 1 = 8
                lock 11 4 = 1
                set 2 0 3
                step 2 = 1
                lock 0 0 = 1
                lock 0 1 = 0
                lock 0 2 = 2
                """);
        promise(16, "5 the value that it will write (0 when erased)", 4, """
                begin 0 = 1
                set 0 3 6
                erase 0 3
                set 0 4 0
                step 0 = 1
                step 0 = 1
                ~ lock 3 5 = 0
                lock 4 5 = 0
                kill 0 = 1
                lock 3 5 = 0
                """);
    }

    private static void lockRefuses() {
        promise(16, "NONE when there is no such cell, no lock, its tablet is down, or what is none of these", 4, """
                ~ lock 0 0 = -1                      // no lock
                begin 0 = 1
                set 0 0 1
                set 0 11 1
                ~ lock 0 0 = -1
                step 0 = 1
                step 0 = 1
                lock 0 0 = 1
                lock 11 0 = 1
                ~ lock -1 0 = -1
                ~ lock 12 0 = -1
                lock -2147483648 0 = -1
                lock 2147483647 0 = -1
                ~ lock 0 -1 = -1
                ~ lock 0 6 = -1
                lock 11 -2147483648 = -1
                lock 11 2147483647 = -1
                crash 2 = 1
                ~ lock 11 0 = -1
                lock 11 4 = -1
                lock 11 5 = -1
                lock 0 0 = 1
                recover 2 = 1
                lock 11 0 = 1
                step 0 = 2
                step 0 = 3
                lock 0 0 = -1                        // no more
                lock 0 4 = -1
                lock 11 0 = 1
                kill 0 = 1
                begin 0 = 3
                set 0 0 1
                step 0 = 1
                kill 0 = 1
                clear 0 = 2
                lock 0 0 = -1
                """);
    }

    private static void recordAnswers() {
        promise(17, "Of a cell's k-th record from the latest time down (0 the latest)", 4, """
                begin 1 = 1
                begin 2 = 2
                """ + commit(7, 6) + """
                begin 3 = 5
                set 3 7 1
                step 3 = 1
                kill 3 = 1
                clear 7 = 2                          // a VOID above a PUT
                record 7 0 0 = 5
                record 7 1 0 = 4
                record 7 2 0 = -1
                """);
        promise(17, "Of a cell's k-th record from the latest time down (0 the latest)", 4, """
                begin 1 = 1
                begin 2 = 2
                begin 3 = 3
                set 3 7 1
                step 3 = 1
                kill 3 = 1
                clear 7 = 2
                set 1 7 1
                step 1 = 1
                kill 1 = 1
                clear 7 = 2
                set 2 7 1
                step 2 = 1
                kill 2 = 1
                clear 7 = 2                          // written last, the middle one in time
                ~ record 7 0 0 = 3
                ~ record 7 1 0 = 2
                ~ record 7 2 0 = 1
                ~ record 7 3 0 = -1
                """);
        promise(17, "0 its time, 1 its start, 2 its kind, 3 its value (0 when it is no PUT)", 4, """
                begin 1 = 1
                """ + commit(7, -1) + """
                begin 0 = 4
                erase 0 7
                step 0 = 1
                step 0 = 2
                step 0 = 4
                begin 0 = 6
                set 0 7 9
                step 0 = 1
                kill 0 = 1
                clear 7 = 2
                record 7 0 0 = 6
                record 7 0 1 = 6
                record 7 0 2 = 3
                record 7 0 3 = 0
                record 7 1 0 = 5
                record 7 1 1 = 4
                record 7 1 2 = 2
                record 7 1 3 = 0
                record 7 2 0 = 3
                record 7 2 1 = 2
                record 7 2 2 = 1
                record 7 2 3 = -1
                """);
    }

    private static void recordRefuses() {
        promise(17, "NONE when there is no such cell or record, its tablet is down, or what is none of these", 4, """
                ~ record 0 0 0 = -1                  // none
                """ + commit(0, 7) + commit(11, 8) + commit(11, 9) + """
                record 0 0 3 = 7
                ~ record 0 1 0 = -1
                record 11 1 3 = 8
                ~ record 11 2 0 = -1
                ~ record 11 -1 0 = -1
                record 11 2147483647 0 = -1
                record 11 -2147483648 0 = -1
                ~ record -1 0 0 = -1
                ~ record 12 0 0 = -1
                record 2147483647 0 0 = -1
                record -2147483648 0 0 = -1
                ~ record 11 0 -1 = -1
                ~ record 11 0 4 = -1
                record 11 0 2147483647 = -1
                record 11 0 -2147483648 = -1
                crash 2 = 1
                ~ record 11 0 0 = -1
                record 11 1 3 = -1
                record 0 0 3 = 7
                recover 2 = 1
                record 11 1 3 = 8
                sweep 7 = 3
                record 11 0 3 = 9
                record 11 1 3 = -1                   // swept
                """);
    }

    private static void tablet() {
        StringBuilder rows = new StringBuilder("tablet 1 0 = 0\n");
        for (int n = 1; n <= 17; n++) {
            rows.append("begin 0\n kill 0\n sweep " + (n + 1) + " = 3\n tablet 1 0 = " + ((n - 1) % 8 + 1) + "\n tablet 1 2 = " + n + "\n");
        }
        promise(18, "0 how many entries its log has", 4, rows.toString());
        promise(18, "1 its watermark (NONE while it is down)", 4, """
                ~ tablet 1 1 = 0
                sweep 1 = 3
                ~ tablet 1 1 = 1
                crash 1 = 1
                ~ tablet 1 1 = -1
                ~ tablet 1 0 = 1                     // the others are answered all the same
                ~ tablet 1 2 = 1
                tablet 0 1 = 1
                tablet 2 1 = 1
                recover 1 = 1
                tablet 1 1 = 1
                """);
        promise(18, "2 how many entries were written in all (with those that failed)", 4, """
                begin 0 = 1
                set 0 4 1
                fail 1 1 false = 1
                step 0 ! IllegalStateException
                tablet 1 2 = 1
                tablet 1 0 = 0
                step 0 ! IllegalStateException       // while it is down none is written
                tablet 1 2 = 1
                recover 1 = 1
                fail 1 1 true = 1
                step 0 ! IllegalStateException
                tablet 1 2 = 2
                tablet 1 0 = 1
                recover 1 = 1
                step 0 = 1
                tablet 1 2 = 2
                tablet 0 2 = 0
                """);
        promise(18, "NONE when there is none or what is none of these", 4, """
                ~ tablet -1 0 = -1
                ~ tablet 3 0 = -1
                tablet -2147483648 0 = -1
                tablet 2147483647 0 = -1
                ~ tablet 0 -1 = -1
                ~ tablet 0 3 = -1
                tablet 2 -2147483648 = -1
                tablet 2 2147483647 = -1
                tablet 0 0 = 0
                tablet 2 2 = 0
                """);
    }

    private static void oracle() {
        promise(19, "0 next, 1 the limit; 2: the time in ticks", 4, """
                ~ oracle 0 = 1
                ~ oracle 1 = 0
                ~ oracle 2 = 0
                begin 0 = 1
                tick 50 = 50
                ~ oracle 0 = 2
                ~ oracle 1 = 8
                ~ oracle 2 = 50
                """);
        promise(19, "NONE for another what", 4, """
                ~ oracle -1 = -1
                ~ oracle 3 = -1
                oracle -2147483648 = -1
                oracle 2147483647 = -1
                begin 0 = 1
                oracle -1 = -1
                oracle 3 = -1
                """);
    }
}
