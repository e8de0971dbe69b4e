/** Promise 7: deliverRecall. */
public final class Promise07DeliverRecallTest extends Checks {
    public static void main(String[] args) {
        badArguments();
        nothingWithoutRecall();
        ownedCopyYields();
        yieldedCopyStaysReadable();
        absentCopyIgnores();
        leasedCopyIgnores();
        oldRecallReachesANewOwner();
        pendingMakesNoDifference();
        recallIsGone();
        laterLeaseIgnores();
        otherLinesAreNotTouched();
        changesNothingElse();
        finish();
    }

    /** Core 0 owns line 0, written 7 at time 1, and core 1's request for it has sent a recall. */
    private static Run recalled() {
        Run run = new Run(2, 2, 4, 2);
        run.store(0, 0, 7);
        run.given(run.x.issue(1, STORE, 0, 8), SENT);
        run.given(run.x.deliverRequest(1), BOUNCED);
        return run;
    }

    /** "1. Bad core or address: BAD." */
    private static void badArguments() {
        Run run = recalled();
        for (int core : new int[] {LOWEST, -1, 2, 4, HIGHEST}) {
            run.due(run.x.deliverRecall(core, 0), BAD);
        }
        for (int address : new int[] {LOWEST, -1, 2, 8, HIGHEST}) {
            run.due(run.x.deliverRecall(0, address), BAD);
        }
    }

    /** "2. No such recall in flight: NOTHING." */
    private static void nothingWithoutRecall() {
        Run run = recalled();
        run.due(run.x.deliverRecall(0, 1), NOTHING);
        run.due(run.x.deliverRecall(1, 0), NOTHING);
        run = new Run(2, 1, 4, 1);
        run.store(0, 0, 7);
        run.due(run.x.deliverRecall(0, 0), NOTHING);
    }

    /** "If core's copy of the line is OWNED, it becomes LEASED with the same times": YIELDED. */
    private static void ownedCopyYields() {
        Run run = recalled();
        run.given(run.x.advance(0, 9), DONE);
        run.given(run.x.issue(0, LOAD, 0, 0), DONE);
        run.due(run.x.deliverRecall(0, 0), YIELDED, "copy0.0: 1 1 10 7", "line0: 0 0 0 0 7 10", "recall0.0: false");
        run.due(run.x.deliverRecall(0, 0), NOTHING);
        run.due(run.x.deliverWriteBack(0), DONE, "line0: -1 1 10 7 7 -1");
    }

    /** The same: the copy is LEASED, so a LOAD still hits it and a write does not. */
    private static void yieldedCopyStaysReadable() {
        Run run = recalled();
        run.given(run.x.deliverRecall(0, 0), YIELDED);
        run.due(run.x.issue(0, LOAD, 0, 0), DONE, "commits: 2", "log1: 0 1 0 0 7 1", "order: 0 1");
        run.due(run.x.issue(0, STORE, 0, 3), SENT, "pending0: 10 2 0 3 -1 -1");
    }

    /** "If core has no copy of the line or a LEASED one, nothing else changes: IGNORED." None. */
    private static void absentCopyIgnores() {
        Run run = recalled();
        run.given(run.x.evict(0, 0), RETURNED);
        run.due(run.x.deliverRecall(0, 0), IGNORED, "recall0.0: false");
        run.due(run.x.deliverRecall(0, 0), NOTHING);
        run.due(run.x.deliverWriteBack(0), DONE, "line0: -1 1 1 7 7 -1");
    }

    /** The same: a LEASED one. */
    private static void leasedCopyIgnores() {
        Run run = recalled();
        run.given(run.x.deliverRecall(0, 0), YIELDED);
        run.given(run.x.deliverRequest(1), BOUNCED);
        run.due(run.x.deliverRecall(0, 0), IGNORED, "recall0.0: false");
        same(run.x.copy(0, 0, STATE), LEASED);
    }

    /** "If core's copy of the line is OWNED": also a copy made after the recall was sent. */
    private static void oldRecallReachesANewOwner() {
        Run run = recalled();
        run.giveBack(0, 0);
        run.store(0, 0, 20);
        run.due(run.x.deliverRecall(0, 0), YIELDED, "copy0.0: 1 2 2 20", "line0: 0 1 1 7 20 2", "recall0.0: false");
    }

    /** "A pending operation of core makes no difference and does not change." */
    private static void pendingMakesNoDifference() {
        Run run = recalled();
        run.given(run.x.issue(0, LOAD, 1, 0), SENT);
        run.due(run.x.deliverRecall(0, 0), YIELDED, "copy0.0: 1 1 1 7", "line0: 0 0 0 0 7 1", "recall0.0: false");
        run = new Run(2, 1, 4, 1);
        run.load(0, 0);
        run.given(run.x.issue(0, STORE, 0, 7), SENT);
        run.given(run.x.deliverRequest(0), RENEWED);
        run.given(run.x.issue(1, STORE, 0, 8), SENT);
        run.given(run.x.deliverRequest(1), BOUNCED);
        run.due(run.x.deliverRecall(0, 0), IGNORED, "recall0.0: false");
        run.given(run.x.deliverReply(0), DONE);
        same(run.x.copy(0, 0, STATE), OWNED);
    }

    /** "2. ... NOTHING": "Otherwise the recall is gone", so it is delivered once. */
    private static void recallIsGone() {
        Run run = recalled();
        run.given(run.x.deliverRecall(0, 0), YIELDED);
        run.due(run.x.deliverRecall(0, 0), NOTHING);
        run = recalled();
        run.given(run.x.evict(0, 0), RETURNED);
        run.given(run.x.deliverRecall(0, 0), IGNORED);
        run.due(run.x.deliverRecall(0, 0), NOTHING);
    }

    /** "core has ... a LEASED one": a lease taken after the line was given back. */
    private static void laterLeaseIgnores() {
        Run run = new Run(3, 1, 4, 1);
        run.store(0, 0, 7);
        run.given(run.x.issue(1, LOAD, 0, 0), SENT);
        run.given(run.x.deliverRequest(1), BOUNCED);
        run.giveBack(0, 0);
        run.load(0, 0);
        run.due(run.x.deliverRecall(0, 0), IGNORED, "recall0.0: false");
        same(told(run.x).get("copy0.0"), "1 1 5 7");
        run.due(run.x.deliverWriteBack(0), NOTHING);
    }

    /** "no copy of the line": other copies of the core, also OWNED ones, are not touched. */
    private static void otherLinesAreNotTouched() {
        Run run = recalled();
        run.store(0, 1, 9);
        run.due(run.x.deliverRecall(0, 0), YIELDED, "copy0.0: 1 1 1 7", "line0: 0 0 0 0 7 1", "recall0.0: false");
        same(told(run.x).get("copy0.1"), "2 1 1 9");
    }

    /** "The home (owner included), clocks, the log, other copies and other messages do not change." */
    private static void changesNothingElse() {
        Run run = busy();
        run.due(run.x.deliverRecall(0, 0), YIELDED, "copy0.0: 1 1 1 7", "line0: 0 0 0 0 7 1", "recall0.0: false");
        run = busy();
        run.given(run.x.evict(0, 0), RETURNED);
        run.due(run.x.deliverRecall(0, 0), IGNORED, "recall0.0: false");
    }
}
