/** Promise 8: deliverWriteBack. */
public final class Promise08DeliverWriteBackTest extends Checks {
    public static void main(String[] args) {
        badAddresses();
        nothingWithoutWriteBack();
        homeTakesTheVersion();
        homeTakesAnUntilPastTheWrittenTime();
        linesAreApart();
        leavesRecallsRequestsAndCopies();
        homeForgetsItsLease();
        nothingWhileTheOwnerKeepsTheLine();
        nothingAfterADrop();
        lineIsFreeForTheNext();
        changesNothingElse();
        finish();
    }

    /** "1. Bad address: BAD." */
    private static void badAddresses() {
        Run run = new Run(2, 2, 4, 2);
        run.store(0, 0, 7);
        run.given(run.x.evict(0, 0), RETURNED);
        for (int address : new int[] {LOWEST, -1, 2, 8, HIGHEST}) {
            run.due(run.x.deliverWriteBack(address), BAD);
        }
    }

    /** "2. No write-back of the line in flight: NOTHING." */
    private static void nothingWithoutWriteBack() {
        Run run = new Run(2, 2, 4, 2);
        run.due(run.x.deliverWriteBack(0), NOTHING);
        run.store(0, 0, 7);
        run.due(run.x.deliverWriteBack(0), NOTHING);
        run.given(run.x.evict(0, 0), RETURNED);
        run.due(run.x.deliverWriteBack(1), NOTHING);
        run.given(run.x.deliverWriteBack(0), DONE);
        run.due(run.x.deliverWriteBack(0), NOTHING);
    }

    /** "the home's written and until of the line become those it carried, and the line has no owner: DONE" */
    private static void homeTakesTheVersion() {
        Run run = new Run(2, 1, 4, 1);
        run.store(0, 0, 7);
        run.given(run.x.issue(0, ADD, 0, 1), DONE);
        run.given(run.x.evict(0, 0), RETURNED);
        run.due(run.x.deliverWriteBack(0), DONE, "line0: -1 2 2 8 8 -1");
    }

    /** The same, with an until that reads have moved; a later write is past it. */
    private static void homeTakesAnUntilPastTheWrittenTime() {
        Run run = new Run(2, 1, 4, 1);
        run.store(0, 0, 7);
        run.given(run.x.advance(0, 30), DONE);
        run.given(run.x.issue(0, LOAD, 0, 0), DONE);
        run.given(run.x.evict(0, 0), RETURNED);
        run.due(run.x.deliverWriteBack(0), DONE, "line0: -1 1 31 7 7 -1");
        run.store(1, 0, 8);
        same(run.x.log(2, TIME), 32);
    }

    /** "other lines do not change" */
    private static void linesAreApart() {
        Run run = new Run(2, 2, 4, 2);
        run.store(0, 0, 7);
        run.store(0, 1, 8);
        run.given(run.x.evict(0, 0), RETURNED);
        run.given(run.x.evict(0, 1), RETURNED);
        run.due(run.x.deliverWriteBack(1), DONE, "line1: -1 1 1 8 8 -1");
        run.due(run.x.deliverWriteBack(0), DONE, "line0: -1 1 1 7 7 -1");
    }

    /** "Recalls in flight stay. Requests, replies, copies, clocks, the log ... do not change." */
    private static void leavesRecallsRequestsAndCopies() {
        Run run = new Run(3, 2, 4, 2);
        run.load(2, 0);
        run.store(0, 0, 7);
        run.given(run.x.issue(1, LOAD, 0, 0), SENT);
        run.given(run.x.deliverRequest(1), BOUNCED);
        run.given(run.x.deliverRecall(0, 0), YIELDED);
        run.given(run.x.deliverRequest(1), BOUNCED);
        run.given(run.x.issue(2, STORE, 1, 9), SENT);
        run.given(run.x.deliverRequest(2), SUPPLIED);
        run.due(run.x.deliverWriteBack(0), DONE, "line0: -1 5 5 7 7 -1");
        same(run.x.recallFlying(0, 0), true);
        run.due(run.x.deliverRequest(1), SUPPLIED, "line0: -1 5 9 7 7 -1", "pending1: 5 1 0 0 5 9");
    }

    /** "become those it carried", in the place of the lease that the home had given. */
    private static void homeForgetsItsLease() {
        Run run = new Run(2, 1, 16, 1);
        run.load(1, 0);
        run.store(0, 0, 7);
        same(told(run.x).get("line0"), "0 0 16 0 7 -1");
        run.given(run.x.evict(0, 0), RETURNED);
        run.due(run.x.deliverWriteBack(0), DONE, "line0: -1 17 17 7 7 -1");
    }

    /** "2. ... NOTHING": an OWNED copy, a recall or a bounced request make no write-back. */
    private static void nothingWhileTheOwnerKeepsTheLine() {
        Run run = new Run(2, 1, 4, 1);
        run.store(0, 0, 7);
        run.given(run.x.issue(1, LOAD, 0, 0), SENT);
        run.given(run.x.deliverRequest(1), BOUNCED);
        run.due(run.x.deliverWriteBack(0), NOTHING);
    }

    /** The same: neither a dropped copy nor an ignored recall makes one. */
    private static void nothingAfterADrop() {
        Run run = new Run(2, 1, 4, 1);
        run.load(0, 0);
        run.given(run.x.evict(0, 0), DROPPED);
        run.due(run.x.deliverWriteBack(0), NOTHING);
        run.store(0, 0, 7);
        run.given(run.x.issue(1, LOAD, 0, 0), SENT);
        run.given(run.x.deliverRequest(1), BOUNCED);
        run.giveBack(0, 0);
        run.given(run.x.deliverRecall(0, 0), IGNORED);
        run.due(run.x.deliverWriteBack(0), NOTHING);
    }

    /** "Otherwise the write-back is gone ... and the line has no owner", also for a request that bounced. */
    private static void lineIsFreeForTheNext() {
        Run run = new Run(2, 1, 4, 1);
        run.store(0, 0, 7);
        run.given(run.x.issue(1, STORE, 0, 8), SENT);
        run.given(run.x.deliverRequest(1), BOUNCED);
        run.given(run.x.deliverRecall(0, 0), YIELDED);
        run.given(run.x.deliverRequest(1), BOUNCED);
        run.given(run.x.deliverWriteBack(0), DONE);
        run.due(run.x.deliverRequest(1), SUPPLIED, "line0: 1 1 1 7 7 -1", "pending1: 5 2 0 8 1 1");
    }

    /** "Requests, replies, copies, clocks, the log and other lines do not change." */
    private static void changesNothingElse() {
        Run run = busy();
        run.due(run.x.deliverWriteBack(1), DONE, "line1: -1 1 1 8 8 -1");
    }
}
