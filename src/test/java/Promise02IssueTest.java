/** Promise 2: issue. */
public final class Promise02IssueTest extends Checks {
    public static void main(String[] args) {
        badArguments();
        badComesBeforeWaiting();
        waitsInEveryPhase();
        sendsWithoutCopy();
        keepsEveryOperand();
        loadHitsUpToUntil();
        everyKindHitsOwned();
        writesOnLeasedCopyAreSent();
        noRoomOnlyWithoutCopy();
        otherCoresCopiesTakeNoRoom();
        roomComesBackAfterEvict();
        fullByEntries();
        fullByEntriesAndPending();
        waitingComesBeforeFull();
        finish();
    }

    private static void badArguments() {
        Run run = new Run(3, 2, 4, 2);
        for (int core : new int[] {LOWEST, -1, 3, 4, HIGHEST}) {
            run.due(run.x.issue(core, LOAD, 0, 0), BAD);
        }
        for (int kind : new int[] {LOWEST, -1, 0, 4, HIGHEST}) {
            run.due(run.x.issue(0, kind, 0, 0), BAD);
        }
        for (int address : new int[] {LOWEST, -1, 2, 8, HIGHEST}) {
            run.due(run.x.issue(0, STORE, address, 0), BAD);
        }
    }

    private static void badComesBeforeWaiting() {
        Run run = new Run(2, 2, 4, 2);
        run.given(run.x.issue(0, LOAD, 0, 0), SENT);
        run.due(run.x.issue(0, 0, 0, 0), BAD);
        run.due(run.x.issue(0, LOAD, 2, 0), BAD);
        run.due(run.x.issue(0, LOAD, 1, 0), WAITING);
    }

    private static void waitsInEveryPhase() {
        Run run = new Run(2, 2, 4, 2);
        run.store(0, 1, 5);
        run.load(0, 0);
        run.given(run.x.issue(0, STORE, 0, 6), SENT);
        run.due(run.x.issue(0, LOAD, 1, 0), WAITING);
        run.given(run.x.deliverRequest(0), RENEWED);
        run.due(run.x.issue(0, LOAD, 1, 0), WAITING);
        run.given(run.x.deliverReply(0), DONE);
        run.given(run.x.issue(1, LOAD, 0, 0), SENT);
        run.due(run.x.issue(0, LOAD, 1, 0), DONE, "copy0.1: 2 1 6 5",
                "commits: 4", "log3: 0 1 1 0 5 6", "order: 0 1 2 3");
    }

    private static void sendsWithoutCopy() {
        Run run = new Run(2, 3, 4, 2);
        run.due(run.x.issue(0, LOAD, 2, 55), SENT, "pending0: 10 1 2 0 -1 -1");
        run.due(run.x.issue(1, STORE, 1, -1), SENT, "pending1: 10 2 1 -1 -1 -1");
        run = new Run(2, 3, 4, 2);
        run.due(run.x.issue(1, ADD, 0, 8), SENT, "pending1: 10 3 0 8 -1 -1");
    }

    private static void keepsEveryOperand() {
        for (int operand : new int[] {LOWEST, -1, 0, 1, HIGHEST}) {
            for (int kind : new int[] {STORE, ADD}) {
                Run run = new Run(2, 1, 4, 1);
                run.given(run.x.issue(0, kind, 0, operand), SENT);
                same(run.x.pending(0, OPERAND), operand);
                run.given(run.x.deliverRequest(0), SUPPLIED);
                run.given(run.x.deliverReply(0), DONE);
                same(run.x.log(0, OPERAND), operand);
                same(run.x.log(0, VALUE), operand);
                run.given(run.x.issue(0, LOAD, 0, operand), DONE);
                same(run.x.log(1, OPERAND), 0);
                same(run.x.log(1, VALUE), operand);
            }
        }
    }

    private static void loadHitsUpToUntil() {
        Run run = new Run(2, 1, 4, 1);
        run.load(0, 0);
        run.given(run.x.advance(0, 4), DONE);
        run.due(run.x.issue(0, LOAD, 0, 0), DONE, "commits: 2", "log1: 0 1 0 0 0 4", "order: 0 1");
        run.given(run.x.advance(0, 1), DONE);
        run.due(run.x.issue(0, LOAD, 0, 7), SENT, "pending0: 10 1 0 0 -1 -1");
        same(run.x.copy(0, 0, STATE), LEASED);
        same(run.x.copy(0, 0, UNTIL), 4);
    }

    private static void everyKindHitsOwned() {
        Run run = new Run(2, 1, 4, 1);
        run.store(0, 0, 7);
        run.given(run.x.advance(0, 10), DONE);
        run.due(run.x.issue(0, LOAD, 0, 1), DONE, "copy0.0: 2 1 11 7",
                "commits: 2", "log1: 0 1 0 0 7 11", "order: 0 1");
        run.due(run.x.issue(0, ADD, 0, 1), DONE, "clock0: 12", "copy0.0: 2 12 12 8", "line0: 0 0 0 0 8 -1",
                "commits: 3", "log2: 0 3 0 1 8 12", "order: 0 1 2");
        run.due(run.x.issue(0, STORE, 0, 1), DONE, "clock0: 13", "copy0.0: 2 13 13 1", "line0: 0 0 0 0 1 -1",
                "commits: 4", "log3: 0 2 0 1 1 13", "order: 0 1 2 3");
    }

    private static void writesOnLeasedCopyAreSent() {
        for (int kind : new int[] {STORE, ADD}) {
            Run run = new Run(2, 1, 4, 1);
            run.load(0, 0);
            run.due(run.x.issue(0, kind, 0, 7), SENT, "pending0: 10 " + kind + " 0 7 -1 -1");
            same(run.x.copy(0, 0, STATE), LEASED);
        }
    }

    private static void noRoomOnlyWithoutCopy() {
        Run run = new Run(2, 3, 1, 2);
        run.load(0, 0);
        run.store(0, 1, 5);
        for (int kind = LOAD; kind <= ADD; kind++) {
            run.due(run.x.issue(0, kind, 2, 0), NO_ROOM);
        }
        run.due(run.x.issue(1, LOAD, 2, 0), SENT, "pending1: 10 1 2 0 -1 -1");
        run.due(run.x.issue(0, LOAD, 0, 0), DONE, "commits: 3", "log2: 0 1 0 0 0 1", "order: 0 1 2");
        run.due(run.x.issue(0, STORE, 0, 9), SENT, "pending0: 10 2 0 9 -1 -1");
    }

    private static void otherCoresCopiesTakeNoRoom() {
        Run run = new Run(4, 8, 4, 1);
        run.store(1, 0, 5);
        run.load(2, 7);
        run.due(run.x.issue(0, LOAD, 7, 0), SENT, "pending0: 10 1 7 0 -1 -1");
        run.due(run.x.issue(3, STORE, 7, 6), SENT, "pending3: 10 2 7 6 -1 -1");
        run.due(run.x.issue(1, LOAD, 7, 0), NO_ROOM);
    }

    private static void roomComesBackAfterEvict() {
        Run run = new Run(2, 2, 4, 1);
        run.store(0, 0, 5);
        run.due(run.x.issue(0, LOAD, 1, 0), NO_ROOM);
        run.given(run.x.evict(0, 0), RETURNED);
        run.due(run.x.issue(0, LOAD, 1, 0), SENT, "pending0: 10 1 1 0 -1 -1");
    }

    private static void fullByEntries() {
        Run run = new Run(2, 2, 4, 1);
        run.store(0, 0, 5);
        run.fillLog(0, 0, 63);
        run.due(run.x.issue(0, LOAD, 1, 0), NO_ROOM);
        run.given(run.x.issue(0, LOAD, 0, 0), DONE);
        run.due(run.x.issue(0, LOAD, 0, 0), FULL);
        run.due(run.x.issue(0, LOAD, 1, 0), FULL);
        run.due(run.x.issue(1, STORE, 1, 0), FULL);
        run.due(run.x.issue(0, LOAD, 2, 0), BAD);
    }

    private static void fullByEntriesAndPending() {
        Run run = new Run(4, 2, 4, 2);
        run.store(0, 0, 5);
        run.fillLog(0, 0, 61);
        run.given(run.x.issue(1, LOAD, 1, 0), SENT);
        run.given(run.x.issue(2, STORE, 1, 0), SENT);
        run.given(run.x.deliverRequest(2), SUPPLIED);
        run.given(run.x.issue(3, ADD, 1, 0), SENT);
        run.due(run.x.issue(0, LOAD, 0, 0), FULL);
        run.given(run.x.deliverReply(2), DONE);
        run.due(run.x.issue(0, LOAD, 0, 0), FULL);
        run.due(run.x.issue(2, LOAD, 1, 0), FULL);
    }

    private static void waitingComesBeforeFull() {
        Run run = new Run(2, 2, 4, 1);
        run.store(0, 0, 5);
        run.fillLog(0, 0, 63);
        run.given(run.x.issue(1, LOAD, 1, 0), SENT);
        run.due(run.x.issue(0, LOAD, 0, 0), FULL);
        run.due(run.x.issue(1, LOAD, 1, 0), WAITING);
        run.given(run.x.deliverRequest(1), SUPPLIED);
        run.given(run.x.deliverReply(1), DONE);
        run.due(run.x.commits(), 64);
    }
}
