/**
 * The boundary cases of a step, one test for each sentence, named by its words: those under "Terms" ("A STEP of a
 * transaction that is open", "CONFLICT", "A method that throws") and those of promise 6.
 */
final class StepEdgesTest {
    private StepEdgesTest() {
    }

    public static void main(String[] args) {
        firstStep();
        prewritesTheLeast();
        prewriteHindered();
        prewriteFindsItsLock();
        conflictByTheWatermark();
        conflictBeforeClearing();
        clearsFirst();
        conflictAfterClearing();
        lockIsWritten();
        commitTime();
        decides();
        decidesByItsRecord();
        decidesByItsLock();
        follows();
        ends();
        conflictEnds();
        isDoneByTheNextStep();
        throwsAndChangesNothing();
        answers();
        refuses();
        Script.end();
    }

    private static void terms(String words, int life, String rows) {
        Script.sentence("Terms, a step", words, life, rows);
    }

    private static void firstStep() {
        terms("without any writes it ends with that", 4, """
                begin 0 = 1
                step 0 = 7
                transaction 0 0 = 0
                transaction 0 1 = 0
                begin 0 = 2
                """);
        terms("without any writes it ends with that", 4, """
                crash 0 = 1
                crash 1 = 1
                crash 2 = 1
                begin 3 = 1
                step 3 = 7                           // no tablet is needed
                oracle 0 = 2
                """);
        terms("without any writes it ends with that", 4, """
                begin 0 = 1
                erase 0 0
                step 0 = 1                           // an erasure is a write
                """);
    }

    private static void prewritesTheLeast() {
        terms("the step PREWRITES the least of them", 4, """
                begin 0 = 1
                set 0 11 1
                set 0 0 2
                set 0 5 3
                set 0 4 4
                step 0 = 1
                transaction 0 4 = 1
                step 0 = 1
                transaction 0 4 = 17
                step 0 = 1
                transaction 0 4 = 49
                lock 11 0 = -1
                step 0 = 1
                transaction 0 4 = 2097
                """);
    }

    private static void prewriteHindered() {
        terms("hindered, if its tablet is down", 4, """
                begin 0 = 1
                set 0 4 1
                set 0 8 1
                crash 1 = 1
                step 0 ! IllegalStateException
                ~ step 0 ! IllegalStateException     // 8 does not go before 4
                lock 8 0 = -1
                recover 1 = 1
                step 0 = 1
                transaction 0 4 = 16
                """);
        terms("hindered, if its tablet is down", 4, """
                begin 0 = 1
                begin 1 = 2
                set 0 4 1
                set 0 8 1
                step 0 = 1
                crash 2 = 1
                ~ step 0 ! IllegalStateException     // the least that is left
                crash 1 = 1
                recover 2 = 1
                step 0 = 1                           // what is prewritten needs its tablet no more
                """);
        terms("hindered, if its tablet is down", 4, """
                begin 0 = 1
                begin 1 = 2
                set 1 4 1
                step 1 = 1
                step 1 = 2
                step 1 = 4
                set 0 4 9
                crash 1 = 1
                step 0 ! IllegalStateException       // before a conflict is looked for
                ~ step 0 ! IllegalStateException
                recover 1 = 1
                step 0 = 0
                """);
    }

    private static void prewriteFindsItsLock() {
        terms("If c has a lock with its own start, it is prewritten", 4, """
                begin 0 = 1
                set 0 4 1
                fail 1 1 true = 1
                step 0 ! IllegalStateException
                recover 1 = 1
                tick 9 = 9
                lock 4 4 = 1
                step 0 = 1                           // loose or not: nothing is cleared or written
                tablet 1 2 = 1
                lock 4 3 = 0
                transaction 0 4 = 16
                step 0 = 2
                step 0 = 4
                """);
    }

    private static void conflictByTheWatermark() {
        String words = "CONFLICT, if the tablet's watermark is above the start";
        terms(words, 20, """
                begin 0 = 1
                begin 1 = 2
                begin 2 = 3
                sweep 2 = 3
                set 0 8 1
                step 0 = 0                           // 2 is the first above 1
                tablet 2 2 = 1
                lock 8 0 = -1
                set 1 8 1
                step 1 = 1                           // and is not above 2
                set 2 9 1
                step 2 = 1
                """);
        terms(words, 20, """
                begin 0 = 1
                fail 1 1 false = 1
                sweep 2 = 1
                recover 1 = 1
                set 0 4 1
                set 0 8 1
                step 0 = 1                           // each tablet has its own
                step 0 = 1
                """);
        terms(words, 20, """
                begin 0 = 1
                fail 1 1 true = 1
                sweep 2 = 2
                recover 1 = 1
                set 0 4 1
                set 0 8 1
                step 0 = 0
                """);
    }

    private static void conflictBeforeClearing() {
        terms("or it is overtaken at c", 20, """
                begin 0 = 1
                begin 1 = 2
                set 1 4 1
                step 1 = 1
                step 1 = 2
                step 1 = 4
                begin 1 = 4
                set 1 4 2
                step 1 = 1
                set 0 4 3
                step 0 = 0                           // not held: nothing is cleared before
                lock 4 0 = 4
                tablet 1 2 = 3
                """);
        terms("or it is overtaken at c", 20, """
                begin 0 = 1
                begin 1 = 2
                set 1 4 1
                step 1 = 1
                step 1 = 2
                step 1 = 4
                begin 1 = 4
                set 1 3 2
                set 1 4 2
                step 1 = 1
                step 1 = 1
                kill 1 = 1
                set 0 4 3
                step 0 = 0                           // nor is a loose lock cleared
                lock 4 0 = 4
                lock 3 0 = 4
                """);
        terms("CONFLICT, if the tablet's watermark is above the start", 20, """
                begin 0 = 1
                begin 1 = 2
                sweep 2 = 3
                set 1 4 2
                step 1 = 1
                set 0 4 3
                step 0 = 0                           // not held by the lock of 2
                lock 4 0 = 2
                """);
    }

    private static void clearsFirst() {
        String words = "Otherwise, if c has a lock, it is cleared first; held or hindered as that is";
        terms(words, 4, """
                begin 0 = 1
                begin 1 = 2
                begin 2 = 3
                set 1 3 1
                set 1 4 2
                step 1 = 1
                step 1 = 1
                set 2 4 7
                step 2 ! IllegalStateException       // held
                ~ step 2 ! IllegalStateException
                set 0 4 8
                step 0 ! IllegalStateException       // and by a lock with a start above its own
                ~ step 0 ! IllegalStateException
                tick 3 = 3
                ~ step 2 ! IllegalStateException
                tick 1 = 4
                crash 0 = 1
                ~ step 2 ! IllegalStateException     // hindered
                recover 0 = 1
                step 2 = 1                           // VOID for 3, VOID for 4, LOCK
                tablet 0 2 = 2
                tablet 1 2 = 3
                lock 4 0 = 3
                lock 3 0 = -1
                record 4 0 1 = 2
                record 4 0 2 = 3
                """);
    }

    private static void conflictAfterClearing() {
        String words = "(CONFLICT then, if it is overtaken at c now)";
        terms(words, 20, """
                begin 0 = 1
                begin 1 = 2
                set 0 3 1
                set 0 4 2
                step 0 = 1
                step 0 = 1
                step 0 = 2
                step 0 = 3
                set 1 4 9
                step 1 = 0                           // cleared by DONE at 3
                record 4 0 0 = 3
                record 4 0 3 = 2
                lock 4 0 = -1
                tablet 1 2 = 2
                transaction 1 0 = 0
                """);
        terms(words, 20, """
                begin 0 = 1
                set 0 3 1
                set 0 4 2
                step 0 = 1
                step 0 = 1
                step 0 = 2
                step 0 = 3
                begin 1 = 3
                set 1 4 9
                step 1 = 1                           // cleared by DONE at 2, below its start
                record 4 0 0 = 2
                lock 4 0 = 3
                tablet 1 2 = 3
                """);
        terms(words, 20, """
                begin 1 = 1
                begin 0 = 2
                set 0 4 2
                step 0 = 1
                kill 0 = 1
                set 1 4 9
                step 1 = 1                           // cleared by VOID at 2, above its start
                record 4 0 0 = 2
                lock 4 0 = 1
                """);
    }

    private static void lockIsWritten() {
        terms("Then LOCK is written, and c is prewritten", 20, """
                begin 3 = 1
                set 3 9 -5
                set 3 7 6
                tick 4 = 4
                step 3 = 1
                tick 2 = 6
                step 3 = 1
                lock 9 0 = 1
                lock 9 1 = 7
                lock 9 2 = 3
                lock 9 3 = 6
                lock 9 5 = -5
                lock 7 3 = 4
                tablet 1 2 = 1
                tablet 2 2 = 1
                transaction 3 4 = 640
                """);
    }

    private static void commitTime() {
        terms("When all are, the next step takes a time from the oracle, its COMMIT TIME", 2, """
                begin 0 = 1
                set 0 0 1
                set 0 11 1
                step 0 = 1
                transaction 0 2 = 0
                step 0 = 1
                transaction 0 2 = 0
                begin 1 = 2
                crash 0 = 1
                crash 2 = 1
                step 0 = 2                           // which no tablet hinders
                transaction 0 2 = 3
                oracle 0 = 4
                tablet 0 2 = 1
                ~ step 0 ! IllegalStateException     // it is taken once
                """);
    }

    private static void decides() {
        terms("The next one decides: hindered, if the primary's tablet is down", 2, """
                begin 0 = 1
                set 0 4 1
                set 0 8 2
                step 0 = 1
                step 0 = 1
                step 0 = 2
                crash 1 = 1
                ~ step 0 ! IllegalStateException
                crash 0 = 1
                crash 2 = 1
                recover 1 = 1
                step 0 = 3                           // the others' do not matter
                transaction 0 5 = 1
                """);
        terms("otherwise CONFLICT", 2, """
                begin 0 = 1
                set 0 4 1
                step 0 = 1
                step 0 = 2
                tick 2 = 2
                clear 4 = 2
                step 0 = 0                           // neither a lock nor a record that counts
                record 4 0 2 = 3
                record 4 1 2 = -1
                tablet 1 2 = 2
                """);
        terms("otherwise CONFLICT", 2, """
                begin 0 = 1
                begin 1 = 2
                set 0 4 1
                step 0 = 1
                step 0 = 2
                tick 2 = 2
                set 1 4 9
                step 1 = 1
                step 0 = 0                           // another's lock
                lock 4 0 = 2
                step 1 = 2
                step 1 = 4
                """);
        terms("otherwise CONFLICT", 2, """
                begin 0 = 1
                begin 1 = 2
                set 0 4 1
                step 0 = 1
                step 0 = 2
                tick 2 = 2
                set 1 4 9
                step 1 = 1
                step 1 = 2
                step 1 = 4
                step 0 = 0                           // another's record
                record 4 0 1 = 2
                record 4 1 2 = 3
                """);
    }

    private static void decidesByItsRecord() {
        for (String write : new String[] {"set 0 4 1", "erase 0 4"}) {
            terms("If the primary has a record PUT or ERASED with its start, it is decided", 2, "begin 0 = 1\n" + write + """

                    set 0 8 2
                    step 0 = 1
                    step 0 = 1
                    step 0 = 2
                    fail 1 1 true = 1
                    step 0 ! IllegalStateException
                    recover 1 = 1
                    transaction 0 5 = 0
                    begin 1 = 3
                    set 1 4 7
                    step 1 = 1
                    step 1 = 2
                    step 1 = 4                       // others may have written since
                    step 0 = 3
                    tablet 1 2 = 4
                    step 0 = 6
                    record 8 0 0 = 2
                    """);
        }
    }

    private static void decidesByItsLock() {
        terms("if it has a lock with its start, DONE (start, commit time) is written, and it is decided", 2, """
                begin 0 = 1
                begin 1 = 2
                set 0 4 1
                set 0 5 1
                step 0 = 1
                step 0 = 1
                step 0 = 2
                tick 9 = 9
                lock 4 4 = 1
                step 0 = 3                           // loose or not, as long as nobody cleared it
                record 4 0 0 = 3
                record 4 0 1 = 1
                lock 4 0 = -1
                lock 5 0 = 1
                tablet 1 2 = 3
                """);
    }

    private static void follows() {
        terms("Each further step takes the least cell that it writes and has not FOLLOWED (the primary need not)", 20, """
                begin 0 = 1
                set 0 10 1
                set 0 2 2
                set 0 6 3
                set 0 3 4
                step 0 = 1
                step 0 = 1
                step 0 = 1
                step 0 = 1
                step 0 = 2
                step 0 = 3
                lock 2 0 = -1
                lock 3 0 = 1
                step 0 = 5
                lock 3 0 = -1
                lock 6 0 = 1
                step 0 = 5
                lock 6 0 = -1
                lock 10 0 = 1
                step 0 = 6
                lock 10 0 = -1
                tablet 0 2 = 4
                """);
        terms("Each further step takes the least cell that it writes and has not FOLLOWED (the primary need not)", 20, """
                begin 0 = 1
                set 0 0 1
                set 0 4 2
                step 0 = 1
                step 0 = 1
                step 0 = 2
                step 0 = 3
                crash 0 = 1
                step 0 = 6                           // the primary's tablet is needed no more
                """);
        terms("hindered, if its tablet is down; if it has a lock with its start", 20, """
                begin 0 = 1
                set 0 0 1
                set 0 4 2
                set 0 8 3
                step 0 = 1
                step 0 = 1
                step 0 = 1
                step 0 = 2
                step 0 = 3
                crash 1 = 1
                ~ step 0 ! IllegalStateException     // 8 does not go before 4
                lock 8 0 = 1
                recover 1 = 1
                step 0 = 5
                crash 2 = 1
                ~ step 0 ! IllegalStateException
                recover 2 = 1
                step 0 = 6
                """);
        terms("if it has a lock with its start, DONE (start, commit time) is written; it has followed", 20, """
                begin 0 = 1
                begin 1 = 2
                set 0 0 1
                set 0 4 2
                set 0 8 3
                set 0 9 4
                step 0 = 1
                step 0 = 1
                step 0 = 1
                step 0 = 1
                step 0 = 2
                step 0 = 3
                clear 4 = 1
                step 0 = 5                           // no lock: nothing is written
                tablet 1 2 = 2
                record 4 1 0 = -1
                begin 2 = 4
                set 2 8 9
                step 2 = 1
                step 0 = 5                           // another's lock is left alone
                lock 8 0 = 4
                tablet 2 2 = 4
                step 0 = 6
                record 9 0 0 = 3
                record 9 0 1 = 1
                """);
    }

    private static void ends() {
        terms("When a step leaves nothing further to be done, the transaction ends", 20, """
                begin 0 = 1
                set 0 0 1
                step 0 = 1
                step 0 = 2
                step 0 = 4                           // one cell
                transaction 0 0 = 0
                begin 0 = 3
                set 0 0 1
                set 0 1 1
                step 0 = 1
                step 0 = 1
                step 0 = 2
                step 0 = 3                           // two cells
                transaction 0 0 = 2
                step 0 = 6
                transaction 0 0 = 0
                """);
        StringBuilder rows = new StringBuilder("begin 0 = 1\n");
        for (int cell = 11; cell >= 0; cell--) {
            rows.append("set 0 " + cell + " 1\n");
        }
        rows.append("transaction 0 3 = 4095\n" + "step 0 = 1\n".repeat(12) + "transaction 0 4 = 4095\n step 0 = 2\n step 0 = 3\n");
        rows.append("step 0 = 5\n".repeat(10) + "transaction 0 0 = 2\n step 0 = 6\n transaction 0 0 = 0\n");
        terms("When a step leaves nothing further to be done, the transaction ends", 20, rows.toString());
    }

    private static void conflictEnds() {
        terms("CONFLICT ends the transaction at once; its locks are left where they are", 20, """
                begin 0 = 1
                begin 1 = 2
                set 1 8 1
                step 1 = 1
                step 1 = 2
                step 1 = 4
                set 0 0 1
                set 0 4 1
                set 0 8 1
                set 0 9 1
                step 0 = 1
                step 0 = 1
                step 0 = 0                           // while prewriting
                transaction 0 0 = 0
                transaction 0 1 = 0
                transaction 0 3 = 0
                transaction 0 4 = 0
                lock 0 0 = 1
                lock 4 0 = 1
                lock 9 0 = -1
                tablet 0 2 = 1
                tablet 1 2 = 1
                begin 0 = 4
                """);
        terms("CONFLICT ends the transaction at once; its locks are left where they are", 2, """
                begin 0 = 1
                set 0 0 1
                set 0 4 1
                step 0 = 1
                step 0 = 1
                step 0 = 2
                tick 2 = 2
                clear 0 = 2
                step 0 = 0                           // while deciding
                transaction 0 0 = 0
                transaction 0 2 = 0
                lock 4 0 = 1
                tablet 1 2 = 1
                step 0 ! NoSuchElementException
                """);
    }

    private static void isDoneByTheNextStep() {
        terms("When a step is hindered or held, what it was about to do is to be done by the next step", 4, """
                begin 0 = 1
                set 0 0 1
                set 0 4 1
                begin 1 = 2
                set 1 0 7
                step 1 = 1
                step 0 ! IllegalStateException       // held
                step 1 = 2
                kill 1 = 1
                step 0 = 1
                transaction 0 4 = 1
                crash 1 = 1
                step 0 ! IllegalStateException       // hindered
                transaction 0 4 = 1
                recover 1 = 1
                step 0 = 1
                transaction 0 4 = 17
                step 0 = 2
                crash 0 = 1
                step 0 ! IllegalStateException
                recover 0 = 1
                step 0 = 3
                crash 1 = 1
                step 0 ! IllegalStateException
                recover 1 = 1
                step 0 = 6
                """);
    }

    private static void throwsAndChangesNothing() {
        terms("that the first step makes a transaction COMMITTING in any case", 4, """
                begin 0 = 1
                set 0 0 1
                crash 0 = 1
                step 0 ! IllegalStateException       // hindered
                transaction 0 0 = 2
                ~ set 0 1 1 ! IllegalStateException
                ~ erase 0 1 ! IllegalStateException
                ~ get 0 1 ! IllegalStateException
                recover 0 = 1
                step 0 = 1
                begin 1 = 2
                set 1 0 1
                step 1 ! IllegalStateException       // held
                transaction 1 0 = 2
                transaction 1 4 = 0
                fail 1 1 false = 1
                begin 2 = 3
                set 2 4 1
                step 2 ! IllegalStateException       // failed
                transaction 2 0 = 2
                """);
        terms("A method that throws changes nothing but what entries were written before, when one failed, that tablet", 20, """
                begin 0 = 1
                set 0 0 1
                set 0 4 1
                step 0 = 1
                step 0 = 1
                kill 0 = 1
                begin 1 = 2
                set 1 4 9
                fail 1 2 false = 1
                step 1 ! IllegalStateException       // VOID for 0, VOID for 4, and a LOCK that fails
                tablet 0 0 = 2
                tablet 0 1 = 0
                tablet 0 2 = 2
                lock 0 0 = -1
                record 0 0 2 = 3
                tablet 1 0 = 2
                tablet 1 1 = -1
                tablet 1 2 = 3
                tablet 2 2 = 0
                transaction 1 0 = 2
                transaction 1 1 = 2
                transaction 1 2 = 0
                transaction 1 3 = 16
                transaction 1 4 = 0
                oracle 0 = 3
                recover 1 = 1
                lock 4 0 = -1
                record 4 0 2 = 3
                """);
    }

    private static void answers() {
        Script.sentence("Promise 6", "3 it was decided (4 if it ended with that), 5 a cell has followed (6 if it ended with that)", 4, """
                begin 0 = 1
                set 0 0 1
                set 0 1 1
                set 0 2 1
                step 0 = 1
                step 0 = 1
                step 0 = 1
                step 0 = 2
                step 0 = 3
                step 0 = 5
                step 0 = 6
                begin 0 = 3
                set 0 0 1
                set 0 1 1
                step 0 = 1
                step 0 = 1
                step 0 = 2
                step 0 = 3
                step 0 = 6
                begin 0 = 5
                set 0 0 1
                step 0 = 1
                step 0 = 2
                step 0 = 4
                """);
        Script.sentence("Promise 6", "7 it ended without writes, 0 CONFLICT", 4, """
                begin 0 = 1
                begin 1 = 2
                step 1 = 7
                begin 1 = 3
                set 1 0 1
                step 1 = 1
                step 1 = 2
                step 1 = 4
                set 0 0 1
                step 0 = 0
                """);
    }

    private static void refuses() {
        Script.sentence("Promise 6", "IllegalArgumentException when there is no such client", 4, """
                begin 0 = 1
                begin 3 = 2
                ~ step -1 ! IllegalArgumentException
                ~ step 4 ! IllegalArgumentException
                ~ step -2147483648 ! IllegalArgumentException
                ~ step 2147483647 ! IllegalArgumentException
                step 0 = 7
                step 3 = 7
                """);
        Script.sentence("Promise 6", "NoSuchElementException when no transaction is open", 4, """
                ~ step 0 ! NoSuchElementException    // never
                begin 1 = 1
                ~ step 0 ! NoSuchElementException    // not its own
                set 1 0 1
                step 1 = 1
                kill 1 = 1
                ~ step 1 ! NoSuchElementException    // killed
                begin 2 = 2
                step 2 = 7
                ~ step 2 ! NoSuchElementException    // ended
                ~ step 3 ! NoSuchElementException
                crash 0 = 1
                ~ step 0 ! NoSuchElementException
                """);
        Script.sentence("Promise 6", "IllegalStateException when the step is hindered or held", 4, """
                begin 0 = 1
                begin 1 = 2
                begin 2 = 3
                set 0 0 1
                set 1 0 2
                set 2 0 3
                step 0 = 1
                step 1 ! IllegalStateException       // held
                ~ step 1 ! IllegalStateException
                tick 3 = 3
                ~ step 1 ! IllegalStateException
                crash 0 = 1
                ~ step 1 ! IllegalStateException     // hindered
                recover 0 = 1
                tick 1 = 4
                step 1 = 1
                step 2 ! IllegalStateException
                kill 1 = 1
                step 2 = 1
                """);
    }
}
