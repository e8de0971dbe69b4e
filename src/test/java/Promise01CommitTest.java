/** Promise 1: what a commit does. */
public final class Promise01CommitTest extends Checks {
    public static void main(String[] args) {
        roomForSixtyFourEntries();
        onlyHitsAndRepliesCommit();
        loadTimeIsTheLaterOfClockAndWritten();
        loadOnOwnedCopyMovesUntil();
        loadOnLeasedCopyChangesNoCopy();
        writeTimeIsPastEveryLease();
        writeTimeOnOwnedCopy();
        storeTakesTheOperand();
        addUsesTheCopysVersion();
        addWrapsAroundOnAHit();
        addWrapsAroundOnAReply();
        timesOfACopyAfterAWrite();
        operandOfALoadIsZero();
        hitChangesNothingElse();
        replyChangesNothingElse();
        staleCopiesStayReadable();
        finish();
    }

    /** "The log has room for 64 entries, with indices from 0 in the order of commits." */
    private static void roomForSixtyFourEntries() {
        Run run = new Run(2, 1, 4, 1);
        run.store(0, 0, 0);
        for (int i = 1; i < 64; i++) {
            run.given(run.x.issue(0, STORE, 0, i), DONE);
        }
        for (int i = 0; i < 64; i++) {
            same(run.x.log(i, OPERAND), i);
        }
        run.due(run.x.issue(0, STORE, 0, 64), FULL);
        run.due(run.x.log(64, OPERAND), BAD);
    }

    /** "only a hit in issue and deliverReply do so" */
    private static void onlyHitsAndRepliesCommit() {
        Run run = busy();
        int entries = run.x.commits();
        run.given(run.x.advance(3, 1), DONE);
        run.given(run.x.issue(3, LOAD, 5, 0), SENT);
        run.given(run.x.deliverRequest(3), SUPPLIED);
        run.given(run.x.deliverRequest(1), BOUNCED);
        run.given(run.x.deliverRecall(0, 0), YIELDED);
        run.given(run.x.deliverWriteBack(0), DONE);
        run.given(run.x.deliverWriteBack(1), DONE);
        run.given(run.x.evict(0, 0), DROPPED);
        same(run.x.commits(), entries);
        run.given(run.x.deliverReply(3), DONE);
        same(run.x.commits(), entries + 1);
        run.given(run.x.issue(3, LOAD, 5, 0), DONE);
        same(run.x.commits(), entries + 2);
    }

    /** "LOAD: time = max(clock of c, copy's written)": a clock below, at and above the written time. */
    private static void loadTimeIsTheLaterOfClockAndWritten() {
        int[][] clockAndTime = {{0, 5}, {4, 5}, {5, 5}, {6, 6}, {20, 20}};
        for (int[] pair : clockAndTime) {
            Run run = new Run(2, 1, 4, 1);
            run.advanceTo(1, 5);
            run.store(1, 0, 7);
            run.giveBack(1, 0);
            run.advanceTo(0, pair[0]);
            run.load(0, 0);
            same(run.x.log(1, TIME), pair[1]);
            same(run.x.log(1, VALUE), 7);
            same(run.x.clock(0), pair[1]);
            same(run.x.copy(0, 0, WRITTEN), 5);
        }
    }

    /** "If the copy is OWNED, its until becomes max(its until, time)" */
    private static void loadOnOwnedCopyMovesUntil() {
        Run run = new Run(2, 1, 4, 1);
        run.store(0, 0, 7);
        run.due(run.x.issue(0, LOAD, 0, 3), DONE, "commits: 2", "log1: 0 1 0 0 7 1", "order: 0 1");
        run.given(run.x.advance(0, 1), DONE);
        run.due(run.x.issue(0, LOAD, 0, 3), DONE, "copy0.0: 2 1 2 7",
                "commits: 3", "log2: 0 1 0 0 7 2", "order: 0 1 2");
        run.given(run.x.advance(0, 20), DONE);
        run.due(run.x.issue(0, LOAD, 0, 3), DONE, "copy0.0: 2 1 22 7",
                "commits: 4", "log3: 0 1 0 0 7 22", "order: 0 1 2 3");
    }

    /** "a LEASED copy does not change": before its until, and at it. */
    private static void loadOnLeasedCopyChangesNoCopy() {
        Run run = new Run(2, 1, 10, 1);
        run.load(0, 0);
        run.given(run.x.advance(0, 5), DONE);
        run.due(run.x.issue(0, LOAD, 0, 9), DONE, "commits: 2", "log1: 0 1 0 0 0 5", "order: 0 1");
        run.given(run.x.advance(0, 5), DONE);
        run.due(run.x.issue(0, LOAD, 0, 9), DONE, "commits: 3", "log2: 0 1 0 0 0 10", "order: 0 1 2");
    }

    /** "STORE: time = max(clock of c, copy's until + 1)", "ADD: time as for STORE", with a lease until 4. */
    private static void writeTimeIsPastEveryLease() {
        int[][] clockAndTime = {{0, 5}, {3, 5}, {4, 5}, {5, 5}, {6, 6}, {30, 30}};
        for (int[] pair : clockAndTime) {
            for (int kind : new int[] {STORE, ADD}) {
                Run run = new Run(2, 1, 4, 1);
                run.load(1, 0);
                run.advanceTo(0, pair[0]);
                run.given(run.x.issue(0, kind, 0, -3), SENT);
                run.given(run.x.deliverRequest(0), SUPPLIED);
                run.given(run.x.deliverReply(0), DONE);
                same(run.x.log(1, TIME), pair[1]);
                same(run.x.clock(0), pair[1]);
            }
        }
    }

    /** The same on a hit: the clock is at the until, at the time after it, and later. */
    private static void writeTimeOnOwnedCopy() {
        int[][] stepsAndTime = {{0, 2}, {1, 2}, {2, 3}, {10, 11}};
        for (int[] pair : stepsAndTime) {
            for (int kind : new int[] {STORE, ADD}) {
                Run run = new Run(2, 1, 4, 1);
                run.store(0, 0, 7);
                run.advanceTo(0, pair[0]);
                run.given(run.x.issue(0, kind, 0, 5), DONE);
                same(run.x.log(1, TIME), pair[1]);
                same(run.x.clock(0), pair[1]);
            }
        }
    }

    /** "STORE: ... VALUE is the operand." */
    private static void storeTakesTheOperand() {
        Run run = new Run(2, 1, 4, 1);
        run.store(0, 0, HIGHEST);
        run.given(run.x.issue(0, STORE, 0, LOWEST), DONE);
        same(run.x.log(0, VALUE), HIGHEST);
        same(run.x.log(1, VALUE), LOWEST);
    }

    /** "ADD: ... VALUE is the value of the copy's version + operand" */
    private static void addUsesTheCopysVersion() {
        Run run = new Run(2, 2, 4, 2);
        run.store(0, 0, 7);
        run.store(0, 1, 100);
        run.due(run.x.issue(0, ADD, 0, -10), DONE, "clock0: 2", "copy0.0: 2 2 2 -3", "line0: 0 0 0 0 -3 -1",
                "commits: 3", "log2: 0 3 0 -10 -3 2", "order: 0 1 2");
    }

    /** "with int wrap-around as in Java" */
    private static void addWrapsAroundOnAHit() {
        int[][] valueOperandSum = {
            {HIGHEST, 1, LOWEST}, {LOWEST, -1, HIGHEST}, {HIGHEST, HIGHEST, -2}, {LOWEST, LOWEST, 0},
            {HIGHEST, LOWEST, -1}, {LOWEST, HIGHEST, -1}, {HIGHEST, 0, HIGHEST}, {HIGHEST - 1, 1, HIGHEST}};
        for (int[] row : valueOperandSum) {
            Run run = new Run(2, 1, 4, 1);
            run.store(0, 0, row[0]);
            run.given(run.x.issue(0, ADD, 0, row[1]), DONE);
            same(run.x.log(1, VALUE), row[2]);
            same(run.x.log(1, OPERAND), row[1]);
            same(run.x.copy(0, 0, VALUE), row[2]);
            same(run.x.line(0, LATEST), row[2]);
        }
    }

    /** The same, with the value brought by a reply. */
    private static void addWrapsAroundOnAReply() {
        Run run = new Run(2, 1, 4, 1);
        run.store(0, 0, HIGHEST);
        run.giveBack(0, 0);
        run.given(run.x.issue(1, ADD, 0, 3), SENT);
        run.given(run.x.deliverRequest(1), SUPPLIED);
        run.given(run.x.deliverReply(1), DONE);
        same(run.x.log(1, VALUE), LOWEST + 2);
        run.giveBack(1, 0);
        same(run.x.line(0, VALUE), LOWEST + 2);
    }

    /** "After a STORE or ADD the copy's written and until are both that time; its state stays." */
    private static void timesOfACopyAfterAWrite() {
        for (int kind : new int[] {STORE, ADD}) {
            Run run = new Run(2, 1, 4, 1);
            run.store(0, 0, 7);
            run.given(run.x.advance(0, 8), DONE);
            run.given(run.x.issue(0, LOAD, 0, 0), DONE);
            same(told(run.x).get("copy0.0"), "2 1 9 7");
            run.given(run.x.issue(0, kind, 0, 0), DONE);
            same(told(run.x).get("copy0.0"), "2 10 10 " + (kind == ADD ? 7 : 0));
        }
    }

    /** "OPERAND of a LOAD is 0." */
    private static void operandOfALoadIsZero() {
        Run run = new Run(2, 1, 4, 1);
        run.given(run.x.issue(0, LOAD, 0, HIGHEST), SENT);
        run.given(run.x.deliverRequest(0), SUPPLIED);
        run.given(run.x.deliverReply(0), DONE);
        run.given(run.x.issue(0, LOAD, 0, LOWEST), DONE);
        same(run.x.log(0, OPERAND), 0);
        same(run.x.log(1, OPERAND), 0);
    }

    /** "A commit does not change the home, any message, any other copy or any other clock." */
    private static void hitChangesNothingElse() {
        Run run = busy();
        run.due(run.x.issue(3, LOAD, 2, 0), DONE, "commits: 5", "log4: 3 1 2 0 0 1", "order: 2 0 1 3 4");
        run.due(run.x.issue(3, STORE, 3, 6), DONE, "clock3: 2", "copy3.3: 2 2 2 6", "line3: 3 0 0 0 6 -1",
                "commits: 6", "log5: 3 2 3 6 6 2", "order: 2 0 1 3 4 5");
        run.due(run.x.issue(0, ADD, 0, 1), DONE, "clock0: 2", "copy0.0: 2 2 2 8", "line0: 0 0 0 0 8 -1",
                "commits: 7", "log6: 0 3 0 1 8 2", "order: 2 0 1 3 4 5 6");
    }

    /** The same, by a reply. */
    private static void replyChangesNothingElse() {
        Run run = busy();
        run.due(run.x.deliverReply(2), DONE, "clock2: 1", "copy2.4: 2 1 1 5", "line4: 2 0 0 0 5 -1",
                "pending2: 0 -1 -1 -1 -1 -1", "commits: 5", "log4: 2 2 4 5 5 1", "order: 2 0 1 3 4");
    }

    /** What it is: "stale copies stay readable, earlier in logical time" */
    private static void staleCopiesStayReadable() {
        Run run = new Run(3, 1, 4, 1);
        run.load(0, 0);
        run.store(1, 0, 7);
        run.given(run.x.issue(1, STORE, 0, 8), DONE);
        same(run.x.log(1, TIME), 5);
        same(run.x.log(2, TIME), 6);
        run.due(run.x.issue(0, LOAD, 0, 0), DONE, "commits: 4", "log3: 0 1 0 0 0 0", "order: 0 3 1 2");
    }
}
