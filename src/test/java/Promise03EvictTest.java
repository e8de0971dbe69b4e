/** Promise 3: evict. */
public final class Promise03EvictTest extends Checks {
    public static void main(String[] args) {
        badArguments();
        waitsForAnyLine();
        waitsInEveryPhase();
        badComesBeforeWaiting();
        waitingComesBeforeNothing();
        nothingToEvict();
        nothingAfterAnEvict();
        dropsLeased();
        dropsALeaseThatHasEnded();
        dropsAYieldedCopyBesideItsWriteBack();
        returnsOwned();
        homeStaysUntilTheWriteBack();
        leavesTheRecall();
        changesNothingElse();
        finish();
    }

    /** "1. Bad core or address: BAD." */
    private static void badArguments() {
        Run run = new Run(2, 2, 4, 2);
        run.store(0, 0, 7);
        for (int core : new int[] {LOWEST, -1, 2, 4, HIGHEST}) {
            run.due(run.x.evict(core, 0), BAD);
        }
        for (int address : new int[] {LOWEST, -1, 2, 8, HIGHEST}) {
            run.due(run.x.evict(0, address), BAD);
        }
    }

    /** "2. Core has a pending operation, on any line: WAITING." */
    private static void waitsForAnyLine() {
        Run run = new Run(2, 3, 4, 3);
        run.load(0, 0);
        run.store(0, 1, 8);
        run.given(run.x.issue(0, STORE, 2, 5), SENT);
        run.due(run.x.evict(0, 0), WAITING);
        run.due(run.x.evict(0, 1), WAITING);
        run.due(run.x.evict(0, 2), WAITING);
    }

    /** The same, in each phase; another core's pending operation does not matter. */
    private static void waitsInEveryPhase() {
        Run run = new Run(2, 2, 4, 2);
        run.load(0, 0);
        run.given(run.x.issue(0, STORE, 1, 5), SENT);
        run.due(run.x.evict(0, 0), WAITING);
        run.given(run.x.deliverRequest(0), SUPPLIED);
        run.due(run.x.evict(0, 0), WAITING);
        run.given(run.x.deliverReply(0), DONE);
        run.given(run.x.issue(0, STORE, 0, 5), SENT);
        run.given(run.x.deliverRequest(0), RENEWED);
        run.due(run.x.evict(0, 0), WAITING);
        run.given(run.x.deliverReply(0), DONE);
        run.given(run.x.issue(1, LOAD, 0, 0), SENT);
        run.due(run.x.evict(0, 1), RETURNED, "copy0.1: 0 -1 -1 -1", "line1: 0 0 0 0 5 1");
    }

    /** "In this order": 1 before 2. */
    private static void badComesBeforeWaiting() {
        Run run = new Run(2, 2, 4, 2);
        run.given(run.x.issue(0, LOAD, 0, 0), SENT);
        run.due(run.x.evict(0, 2), BAD);
        run.due(run.x.evict(0, -1), BAD);
    }

    /** "In this order": 2 before 3. */
    private static void waitingComesBeforeNothing() {
        Run run = new Run(2, 2, 4, 2);
        run.given(run.x.issue(0, LOAD, 0, 0), SENT);
        run.due(run.x.evict(0, 0), WAITING);
        run.due(run.x.evict(0, 1), WAITING);
        run.due(run.x.evict(1, 0), NOTHING);
    }

    /** "3. Core has no copy of the line: NOTHING." Another line's and another core's are not it. */
    private static void nothingToEvict() {
        Run run = new Run(2, 2, 4, 2);
        run.due(run.x.evict(0, 0), NOTHING);
        run.load(0, 0);
        run.due(run.x.evict(0, 1), NOTHING);
        run.due(run.x.evict(1, 0), NOTHING);
    }

    /** The same: a copy can be given up once. */
    private static void nothingAfterAnEvict() {
        Run run = new Run(2, 2, 4, 2);
        run.load(0, 0);
        run.store(0, 1, 5);
        run.given(run.x.evict(0, 0), DROPPED);
        run.due(run.x.evict(0, 0), NOTHING);
        run.given(run.x.evict(0, 1), RETURNED);
        run.due(run.x.evict(0, 1), NOTHING);
    }

    /** "4. The copy is LEASED: it is removed: DROPPED." No write-back is sent. */
    private static void dropsLeased() {
        Run run = new Run(2, 2, 4, 2);
        run.load(0, 0);
        run.load(0, 1);
        run.load(1, 0);
        run.due(run.x.evict(0, 0), DROPPED, "copy0.0: 0 -1 -1 -1");
        run.due(run.x.deliverWriteBack(0), NOTHING);
    }

    /** The same, with the clock past the copy's until. */
    private static void dropsALeaseThatHasEnded() {
        Run run = new Run(2, 1, 1, 1);
        run.load(0, 0);
        run.given(run.x.advance(0, 64), DONE);
        run.due(run.x.evict(0, 0), DROPPED, "copy0.0: 0 -1 -1 -1");
    }

    /** The same, for a copy that was OWNED: the write-back of its recall is not disturbed. */
    private static void dropsAYieldedCopyBesideItsWriteBack() {
        Run run = new Run(2, 1, 4, 1);
        run.store(0, 0, 7);
        run.given(run.x.issue(1, LOAD, 0, 0), SENT);
        run.given(run.x.deliverRequest(1), BOUNCED);
        run.given(run.x.deliverRecall(0, 0), YIELDED);
        run.due(run.x.evict(0, 0), DROPPED, "copy0.0: 0 -1 -1 -1");
        run.due(run.x.deliverWriteBack(0), DONE, "line0: -1 1 1 7 7 -1");
    }

    /** "5. The copy is OWNED: it is removed and a write-back ... is put in flight: RETURNED." */
    private static void returnsOwned() {
        Run run = new Run(2, 2, 4, 2);
        run.store(0, 0, 7);
        run.given(run.x.advance(0, 8), DONE);
        run.given(run.x.issue(0, LOAD, 0, 0), DONE);
        run.given(run.x.advance(0, 8), DONE);
        run.due(run.x.evict(0, 0), RETURNED, "copy0.0: 0 -1 -1 -1", "line0: 0 0 0 0 7 9");
        run.due(run.x.deliverWriteBack(0), DONE, "line0: -1 1 9 7 7 -1");
    }

    /** "The home's owner stays until that write-back is delivered, and so do the home's times." */
    private static void homeStaysUntilTheWriteBack() {
        Run run = new Run(3, 1, 4, 1);
        run.load(1, 0);
        run.store(0, 0, 7);
        run.due(run.x.evict(0, 0), RETURNED, "copy0.0: 0 -1 -1 -1", "line0: 0 0 4 0 7 5");
        run.given(run.x.issue(2, LOAD, 0, 0), SENT);
        run.due(run.x.deliverRequest(2), BOUNCED, "recall0.0: true");
        run.due(run.x.deliverWriteBack(0), DONE, "line0: -1 5 5 7 7 -1");
    }

    /** "other messages (a recall for the pair included) do not change" */
    private static void leavesTheRecall() {
        Run run = new Run(2, 1, 4, 1);
        run.store(0, 0, 7);
        run.given(run.x.issue(1, LOAD, 0, 0), SENT);
        run.given(run.x.deliverRequest(1), BOUNCED);
        run.due(run.x.evict(0, 0), RETURNED, "copy0.0: 0 -1 -1 -1", "line0: 0 0 0 0 7 1");
        same(run.x.recallFlying(0, 0), true);
        run.due(run.x.deliverRecall(0, 0), IGNORED, "recall0.0: false");
    }

    /** "Clocks, the log, other copies and other messages ... do not change." */
    private static void changesNothingElse() {
        Run run = busy();
        run.due(run.x.evict(3, 2), DROPPED, "copy3.2: 0 -1 -1 -1");
        run.due(run.x.evict(3, 3), RETURNED, "copy3.3: 0 -1 -1 -1", "line3: 3 0 0 0 9 1");
        run.due(run.x.evict(0, 0), RETURNED, "copy0.0: 0 -1 -1 -1", "line0: 0 0 0 0 7 1");
    }
}
