/** Promise 6: deliverReply. */
public final class Promise06DeliverReplyTest extends Checks {
    public static void main(String[] args) {
        badCores();
        nothingWithoutReply();
        loadMakesALeasedCopy();
        writesMakeAnOwnedCopy();
        renewedLoadKeepsTheVersion();
        renewedWriteUpgradesTheCopy();
        suppliedReplyReplacesTheVersion();
        replyCarriesTheTimesItWasSentWith();
        leavesTheRecall();
        finish();
    }

    private static void badCores() {
        Run run = new Run(2, 1, 4, 1);
        for (int core : new int[] {LOWEST, -1, 2, 4, HIGHEST}) {
            run.due(run.x.deliverReply(core), BAD);
        }
    }

    private static void nothingWithoutReply() {
        Run run = new Run(2, 1, 4, 1);
        run.due(run.x.deliverReply(0), NOTHING);
        run.given(run.x.issue(0, STORE, 0, 7), SENT);
        run.due(run.x.deliverReply(0), NOTHING);
        run.given(run.x.deliverRequest(0), SUPPLIED);
        run.due(run.x.deliverReply(1), NOTHING);
        run.given(run.x.deliverReply(0), DONE);
        run.due(run.x.deliverReply(0), NOTHING);
    }

    private static void loadMakesALeasedCopy() {
        Run run = new Run(2, 2, 4, 1);
        run.given(run.x.advance(0, 3), DONE);
        run.given(run.x.issue(0, LOAD, 1, 9), SENT);
        run.given(run.x.deliverRequest(0), SUPPLIED);
        run.due(run.x.deliverReply(0), DONE, "copy0.1: 1 0 7 0", "pending0: 0 -1 -1 -1 -1 -1",
                "commits: 1", "log0: 0 1 1 0 0 3", "order: 0");
    }

    private static void writesMakeAnOwnedCopy() {
        for (int kind : new int[] {STORE, ADD}) {
            Run run = new Run(2, 2, 4, 1);
            run.given(run.x.issue(1, kind, 1, 9), SENT);
            run.given(run.x.deliverRequest(1), SUPPLIED);
            run.due(run.x.deliverReply(1), DONE, "clock1: 1", "copy1.1: 2 1 1 9", "line1: 1 0 0 0 9 -1",
                    "pending1: 0 -1 -1 -1 -1 -1", "commits: 1", "log0: 1 " + kind + " 1 9 9 1", "order: 0");
        }
    }

    private static void renewedLoadKeepsTheVersion() {
        Run run = new Run(2, 1, 4, 1);
        run.store(1, 0, 7);
        run.given(run.x.evict(1, 0), RETURNED);
        run.given(run.x.deliverWriteBack(0), DONE);
        run.load(0, 0);
        run.given(run.x.advance(0, 10), DONE);
        run.given(run.x.issue(0, LOAD, 0, 0), SENT);
        run.given(run.x.deliverRequest(0), RENEWED);
        run.due(run.x.deliverReply(0), DONE, "copy0.0: 1 1 15 7", "pending0: 0 -1 -1 -1 -1 -1",
                "commits: 3", "log2: 0 1 0 0 7 11", "order: 0 1 2");
    }

    private static void renewedWriteUpgradesTheCopy() {
        Run run = new Run(2, 1, 4, 1);
        run.load(0, 0);
        run.given(run.x.issue(0, ADD, 0, 6), SENT);
        run.given(run.x.deliverRequest(0), RENEWED);
        run.due(run.x.deliverReply(0), DONE, "clock0: 5", "copy0.0: 2 5 5 6", "line0: 0 0 4 0 6 -1",
                "pending0: 0 -1 -1 -1 -1 -1", "commits: 2", "log1: 0 3 0 6 6 5", "order: 0 1");
    }

    private static void suppliedReplyReplacesTheVersion() {
        Run run = new Run(2, 1, 4, 1);
        run.load(0, 0);
        run.store(1, 0, 7);
        run.given(run.x.evict(1, 0), RETURNED);
        run.given(run.x.deliverWriteBack(0), DONE);
        run.given(run.x.issue(0, ADD, 0, 1), SENT);
        run.given(run.x.deliverRequest(0), SUPPLIED);
        run.due(run.x.deliverReply(0), DONE, "clock0: 6", "copy0.0: 2 6 6 8", "line0: 0 5 5 7 8 -1",
                "pending0: 0 -1 -1 -1 -1 -1", "commits: 3", "log2: 0 3 0 1 8 6", "order: 0 1 2");
    }

    private static void replyCarriesTheTimesItWasSentWith() {
        Run run = new Run(3, 1, 4, 1);
        run.given(run.x.issue(0, LOAD, 0, 0), SENT);
        run.given(run.x.deliverRequest(0), SUPPLIED);
        run.given(run.x.advance(1, 40), DONE);
        run.load(1, 0);
        run.store(2, 0, 7);
        run.given(run.x.evict(2, 0), RETURNED);
        run.given(run.x.deliverWriteBack(0), DONE);
        run.due(run.x.deliverReply(0), DONE, "copy0.0: 1 0 4 0", "pending0: 0 -1 -1 -1 -1 -1",
                "commits: 3", "log2: 0 1 0 0 0 0", "order: 2 0 1");
    }

    private static void leavesTheRecall() {
        Run run = new Run(2, 1, 4, 1);
        run.given(run.x.issue(0, STORE, 0, 7), SENT);
        run.given(run.x.deliverRequest(0), SUPPLIED);
        run.given(run.x.issue(1, LOAD, 0, 0), SENT);
        run.given(run.x.deliverRequest(1), BOUNCED);
        run.due(run.x.deliverReply(0), DONE, "clock0: 1", "copy0.0: 2 1 1 7", "line0: 0 0 0 0 7 -1",
                "pending0: 0 -1 -1 -1 -1 -1", "commits: 1", "log0: 0 2 0 7 7 1", "order: 0");
        same(run.x.recallFlying(0, 0), true);
    }
}
