/** Promise 5: deliverRequest. */
public final class Promise05DeliverRequestTest extends Checks {
    public static void main(String[] args) {
        badCores();
        nothingWhileIdle();
        nothingOnceReplied();
        bouncesOffAnotherOwner();
        secondRecallIsNone();
        recallComesAgainAfterItsDelivery();
        bouncesWhileTheOwnersReplyFlies();
        bouncesOffItselfAfterEvict();
        bouncesOffItselfAfterRecall();
        bounceChangesNothingElse();
        loadExtendsTheLease();
        loadLeasesFromTheWrittenTime();
        loadNeverShortensTheLease();
        leasesOfTheLeastAndTheGreatestLength();
        writeTakesTheLine();
        renewsTheSameVersion();
        renewsAYieldedCopy();
        suppliesWithoutCopy();
        suppliesAfterEvict();
        suppliesAnotherVersion();
        suppliesAnotherVersionToAWriter();
        otherCoresCopiesDoNotRenew();
        changesNothingElse();
        finish();
    }

    /** "1. Bad core: BAD." */
    private static void badCores() {
        Run run = new Run(2, 1, 4, 1);
        run.given(run.x.issue(0, LOAD, 0, 0), SENT);
        for (int core : new int[] {LOWEST, -1, 2, 4, HIGHEST}) {
            run.due(run.x.deliverRequest(core), BAD);
        }
    }

    /** "2. Phase of core not ASKING (this includes IDLE): NOTHING." */
    private static void nothingWhileIdle() {
        Run run = new Run(2, 1, 4, 1);
        run.due(run.x.deliverRequest(0), NOTHING);
        run.given(run.x.issue(0, LOAD, 0, 0), SENT);
        run.due(run.x.deliverRequest(1), NOTHING);
        run.given(run.x.deliverRequest(0), SUPPLIED);
        run.given(run.x.deliverReply(0), DONE);
        run.due(run.x.deliverRequest(0), NOTHING);
    }

    /** The same: SUPPLIED and RENEWED, "the request is gone". */
    private static void nothingOnceReplied() {
        Run run = new Run(2, 1, 4, 1);
        run.given(run.x.issue(0, LOAD, 0, 0), SENT);
        run.given(run.x.deliverRequest(0), SUPPLIED);
        run.due(run.x.deliverRequest(0), NOTHING);
        run.given(run.x.deliverReply(0), DONE);
        run.given(run.x.issue(0, STORE, 0, 1), SENT);
        run.given(run.x.deliverRequest(0), RENEWED);
        run.due(run.x.deliverRequest(0), NOTHING);
    }

    /** "If a has an owner: BOUNCED. When the owner is another core, a recall for (owner, a) is put in flight" */
    private static void bouncesOffAnotherOwner() {
        for (int kind = LOAD; kind <= ADD; kind++) {
            Run run = new Run(4, 2, 4, 2);
            run.store(2, 1, 7);
            run.given(run.x.issue(1, kind, 1, 0), SENT);
            run.due(run.x.deliverRequest(1), BOUNCED, "recall2.1: true");
            run.given(run.x.deliverRecall(2, 1), YIELDED);
            run.given(run.x.deliverWriteBack(1), DONE);
            run.given(run.x.deliverRequest(1), SUPPLIED);
        }
    }

    /** "if one is in flight already it stays the only one" */
    private static void secondRecallIsNone() {
        Run run = new Run(4, 1, 4, 1);
        run.store(2, 0, 7);
        run.given(run.x.issue(0, LOAD, 0, 0), SENT);
        run.given(run.x.issue(1, STORE, 0, 0), SENT);
        run.given(run.x.deliverRequest(0), BOUNCED);
        run.due(run.x.deliverRequest(0), BOUNCED);
        run.due(run.x.deliverRequest(1), BOUNCED);
        run.given(run.x.deliverRecall(2, 0), YIELDED);
        run.due(run.x.deliverRecall(2, 0), NOTHING);
    }

    /** The same: once delivered it is not in flight, so a further one is sent, also to a later owner. */
    private static void recallComesAgainAfterItsDelivery() {
        Run run = new Run(4, 1, 4, 1);
        run.store(2, 0, 7);
        run.given(run.x.issue(0, LOAD, 0, 0), SENT);
        run.given(run.x.issue(3, ADD, 0, 0), SENT);
        run.given(run.x.deliverRequest(0), BOUNCED);
        run.given(run.x.deliverRecall(2, 0), YIELDED);
        run.due(run.x.deliverRequest(3), BOUNCED, "recall2.0: true");
        run.given(run.x.deliverWriteBack(0), DONE);
        run.due(run.x.deliverRequest(3), SUPPLIED, "line0: 3 1 1 7 7 -1", "pending3: 5 3 0 0 1 1");
        run.due(run.x.deliverRequest(0), BOUNCED, "recall3.0: true");
        same(run.x.recallFlying(2, 0), true);
    }

    /** "If a has an owner": it is one from the delivery of its own request on. */
    private static void bouncesWhileTheOwnersReplyFlies() {
        Run run = new Run(2, 1, 4, 1);
        run.given(run.x.issue(0, STORE, 0, 7), SENT);
        run.given(run.x.issue(1, LOAD, 0, 0), SENT);
        run.given(run.x.deliverRequest(0), SUPPLIED);
        run.due(run.x.deliverRequest(1), BOUNCED, "recall0.0: true");
    }

    /** "When the owner is core itself, no recall is sent." Its evicted copy is on the way. */
    private static void bouncesOffItselfAfterEvict() {
        for (int kind = LOAD; kind <= ADD; kind++) {
            Run run = new Run(2, 1, 4, 1);
            run.store(0, 0, 7);
            run.given(run.x.evict(0, 0), RETURNED);
            run.given(run.x.issue(0, kind, 0, 0), SENT);
            run.due(run.x.deliverRequest(0), BOUNCED);
            run.due(run.x.deliverRequest(0), BOUNCED);
            run.given(run.x.deliverWriteBack(0), DONE);
            run.given(run.x.deliverRequest(0), SUPPLIED);
        }
    }

    /** The same: its copy was recalled, and it wants to write again; a recall in flight stays. */
    private static void bouncesOffItselfAfterRecall() {
        Run run = new Run(2, 1, 4, 1);
        run.store(0, 0, 7);
        run.given(run.x.issue(1, LOAD, 0, 0), SENT);
        run.given(run.x.deliverRequest(1), BOUNCED);
        run.given(run.x.deliverRecall(0, 0), YIELDED);
        run.given(run.x.issue(0, STORE, 0, 8), SENT);
        run.due(run.x.deliverRequest(0), BOUNCED);
        run.given(run.x.deliverRequest(1), BOUNCED);
        run.due(run.x.deliverRequest(0), BOUNCED);
        same(run.x.recallFlying(0, 0), true);
    }

    /** "In both cases the request stays in flight and all else stays." */
    private static void bounceChangesNothingElse() {
        Run run = busy();
        run.due(run.x.deliverRequest(1), BOUNCED);
        run.given(run.x.issue(0, STORE, 1, 3), SENT);
        run.due(run.x.deliverRequest(0), BOUNCED);
        run.given(run.x.issue(3, ADD, 1, 3), SENT);
        run.due(run.x.deliverRequest(3), BOUNCED, "recall0.1: true");
    }

    /** "For a LOAD, the home's until of a becomes max(its until, max(its written, clock of core) + lease)" */
    private static void loadExtendsTheLease() {
        Run run = new Run(2, 2, 4, 1);
        run.given(run.x.advance(0, 9), DONE);
        run.given(run.x.issue(0, LOAD, 1, 0), SENT);
        run.due(run.x.deliverRequest(0), SUPPLIED, "line1: -1 0 13 0 0 -1", "pending0: 5 1 1 0 0 13");
    }

    /** The same: a clock below, at and above the written time. */
    private static void loadLeasesFromTheWrittenTime() {
        int[][] clockAndUntil = {{0, 24}, {19, 24}, {20, 24}, {21, 25}, {60, 64}};
        for (int[] pair : clockAndUntil) {
            Run run = new Run(2, 1, 4, 1);
            run.advanceTo(0, 20);
            run.store(0, 0, 7);
            run.giveBack(0, 0);
            run.advanceTo(1, pair[0]);
            run.given(run.x.issue(1, LOAD, 0, 0), SENT);
            run.due(run.x.deliverRequest(1), SUPPLIED,
                    "line0: -1 20 " + pair[1] + " 7 7 -1", "pending1: 5 1 0 0 20 " + pair[1]);
        }
    }

    /** The same: a lease that ends before the home's until, at it, and after it. */
    private static void loadNeverShortensTheLease() {
        int[][] clockAndUntil = {{0, 13}, {8, 13}, {9, 13}, {10, 14}};
        for (int[] pair : clockAndUntil) {
            Run run = new Run(2, 1, 4, 1);
            run.advanceTo(0, 9);
            run.load(0, 0);
            same(run.x.line(0, UNTIL), 13);
            run.advanceTo(1, pair[0]);
            run.given(run.x.issue(1, LOAD, 0, 0), SENT);
            run.given(run.x.deliverRequest(1), SUPPLIED);
            same(run.x.line(0, UNTIL), pair[1]);
            same(run.x.pending(1, UNTIL), pair[1]);
            same(run.x.pending(1, WRITTEN), 0);
        }
    }

    /** The same, with a lease of 1 and of 16. */
    private static void leasesOfTheLeastAndTheGreatestLength() {
        for (int lease : new int[] {1, 16}) {
            Run run = new Run(2, 1, lease, 1);
            run.advanceTo(0, 1000);
            run.given(run.x.issue(0, LOAD, 0, 0), SENT);
            run.due(run.x.deliverRequest(0), SUPPLIED,
                    "line0: -1 0 " + (1000 + lease) + " 0 0 -1", "pending0: 5 1 0 0 0 " + (1000 + lease));
        }
    }

    /** "For a STORE or ADD, core becomes the owner of a and the home's times stay." */
    private static void writeTakesTheLine() {
        for (int kind : new int[] {STORE, ADD}) {
            Run run = new Run(2, 1, 4, 1);
            run.load(0, 0);
            run.given(run.x.advance(1, 50), DONE);
            run.given(run.x.issue(1, kind, 0, 7), SENT);
            run.due(run.x.deliverRequest(1), SUPPLIED, "line0: 1 0 4 0 0 -1", "pending1: 5 " + kind + " 0 7 0 4");
        }
    }

    /** "RENEWED if core has a copy of a with the same written time as the home" */
    private static void renewsTheSameVersion() {
        Run run = new Run(2, 1, 4, 1);
        run.load(0, 0);
        run.given(run.x.advance(0, 5), DONE);
        run.given(run.x.issue(0, LOAD, 0, 0), SENT);
        run.due(run.x.deliverRequest(0), RENEWED, "line0: -1 0 9 0 0 -1", "pending0: 4 1 0 0 0 9");
        run.given(run.x.deliverReply(0), DONE);
        run.given(run.x.issue(0, STORE, 0, 3), SENT);
        run.due(run.x.deliverRequest(0), RENEWED, "line0: 0 0 9 0 0 -1", "pending0: 4 2 0 3 0 9");
    }

    /** The same, for a copy of which the version came to the home by its own write-back. */
    private static void renewsAYieldedCopy() {
        Run run = new Run(2, 1, 4, 1);
        run.store(0, 0, 7);
        run.given(run.x.issue(1, LOAD, 0, 0), SENT);
        run.given(run.x.deliverRequest(1), BOUNCED);
        run.given(run.x.deliverRecall(0, 0), YIELDED);
        run.given(run.x.deliverWriteBack(0), DONE);
        run.given(run.x.issue(0, ADD, 0, 3), SENT);
        run.due(run.x.deliverRequest(0), RENEWED, "line0: 0 1 1 7 7 -1", "pending0: 4 3 0 3 1 1");
    }

    /** "otherwise SUPPLIED": without a copy, also at the start, where all times are 0. */
    private static void suppliesWithoutCopy() {
        for (int kind = LOAD; kind <= ADD; kind++) {
            Run run = new Run(2, 1, 4, 1);
            run.given(run.x.issue(0, kind, 0, 0), SENT);
            run.given(run.x.deliverRequest(0), SUPPLIED);
            same(run.x.pending(0, STATE), SUPPLIED);
        }
    }

    /** The same: a copy given up is none, though its version is still the home's. */
    private static void suppliesAfterEvict() {
        Run run = new Run(2, 1, 4, 1);
        run.load(0, 0);
        run.given(run.x.evict(0, 0), DROPPED);
        run.given(run.x.issue(0, LOAD, 0, 0), SENT);
        run.due(run.x.deliverRequest(0), SUPPLIED, "pending0: 5 1 0 0 0 4");
        run = new Run(2, 1, 4, 1);
        run.store(0, 0, 7);
        run.giveBack(0, 0);
        run.given(run.x.issue(0, STORE, 0, 8), SENT);
        run.due(run.x.deliverRequest(0), SUPPLIED, "line0: 0 1 1 7 7 -1", "pending0: 5 2 0 8 1 1");
    }

    /** The same: a copy of an older version. */
    private static void suppliesAnotherVersion() {
        Run run = new Run(2, 1, 4, 1);
        run.load(0, 0);
        run.store(1, 0, 7);
        run.giveBack(1, 0);
        run.given(run.x.advance(0, 30), DONE);
        run.given(run.x.issue(0, LOAD, 0, 0), SENT);
        run.due(run.x.deliverRequest(0), SUPPLIED, "line0: -1 5 34 7 7 -1", "pending0: 5 1 0 0 5 34");
        same(told(run.x).get("copy0.0"), "1 0 4 0");
    }

    /** The same, for a writer: also where the value is the same and only the written time is not. */
    private static void suppliesAnotherVersionToAWriter() {
        for (int value : new int[] {0, 7}) {
            Run run = new Run(2, 1, 4, 1);
            run.load(0, 0);
            run.store(1, 0, value);
            run.giveBack(1, 0);
            run.given(run.x.issue(0, ADD, 0, 1), SENT);
            run.given(run.x.deliverRequest(0), SUPPLIED);
            same(told(run.x).get("pending0"), "5 3 0 1 5 5");
        }
    }

    /** The same: another core's copy and a copy of another line are not it. */
    private static void otherCoresCopiesDoNotRenew() {
        Run run = new Run(2, 2, 4, 2);
        run.load(1, 0);
        run.load(0, 1);
        run.given(run.x.issue(0, LOAD, 0, 0), SENT);
        run.due(run.x.deliverRequest(0), SUPPLIED, "pending0: 5 1 0 0 0 4");
    }

    /** "Clocks, copies, the log, other cores' pending operations and other messages do not change." */
    private static void changesNothingElse() {
        Run run = busy();
        run.given(run.x.issue(3, STORE, 2, 6), SENT);
        run.due(run.x.deliverRequest(3), RENEWED, "line2: 3 0 4 0 0 -1", "pending3: 4 2 2 6 0 4");
        run.given(run.x.issue(0, LOAD, 7, 6), SENT);
        run.due(run.x.deliverRequest(0), SUPPLIED, "line7: -1 0 5 0 0 -1", "pending0: 5 1 7 0 0 5");
    }
}
