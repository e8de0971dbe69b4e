/** Promise 6: deliverReply. */
public final class Promise06DeliverReplyTest extends Checks {
    public static void main(String[] args) {
        badCores();
        nothingWithoutReply();
        loadMakesALeasedCopy();
        writesMakeAnOwnedCopy();
        renewedLoadKeepsTheVersion();
        renewedWriteUpgradesTheCopy();
        suppliedReplyReplacesTheVersion();
        replyCarriesTheTimesItWasSentWith();
        leavesTheRecall();
        replyIsGone();
        nothingAfterABounce();
        copyTakesTheLastWay();
        replyTakesTheLastEntry();
        changesNothingElse();
        finish();
    }

    /** "1. Bad core: BAD." */
    private static void badCores() {
        Run run = new Run(2, 1, 4, 1);
        for (int core : new int[] {LOWEST, -1, 2, 4, HIGHEST}) {
            run.due(run.x.deliverReply(core), BAD);
        }
    }

    /** "2. No reply in flight to core (nothing pending, or the phase is ASKING): NOTHING." */
    private static void nothingWithoutReply() {
        Run run = new Run(2, 1, 4, 1);
        run.due(run.x.deliverReply(0), NOTHING);
        run.given(run.x.issue(0, STORE, 0, 7), SENT);
        run.due(run.x.deliverReply(0), NOTHING);
        run.given(run.x.deliverRequest(0), SUPPLIED);
        run.due(run.x.deliverReply(1), NOTHING);
        run.given(run.x.deliverReply(0), DONE);
        run.due(run.x.deliverReply(0), NOTHING);
    }

    /** "core's copy of the line, made now if absent, gets ... the state LEASED for a LOAD" */
    private static void loadMakesALeasedCopy() {
        Run run = new Run(2, 2, 4, 1);
        run.given(run.x.advance(0, 3), DONE);
        run.given(run.x.issue(0, LOAD, 1, 9), SENT);
        run.given(run.x.deliverRequest(0), SUPPLIED);
        run.due(run.x.deliverReply(0), DONE, "copy0.1: 1 0 7 0", "pending0: 0 -1 -1 -1 -1 -1",
                "commits: 1", "log0: 0 1 1 0 0 3", "order: 0");
    }

    /** "OWNED for a STORE or ADD. Then the pending operation is committed on that copy" */
    private static void writesMakeAnOwnedCopy() {
        for (int kind : new int[] {STORE, ADD}) {
            Run run = new Run(2, 2, 4, 1);
            run.given(run.x.issue(1, kind, 1, 9), SENT);
            run.given(run.x.deliverRequest(1), SUPPLIED);
            run.due(run.x.deliverReply(1), DONE, "clock1: 1", "copy1.1: 2 1 1 9", "line1: 1 0 0 0 9 -1",
                    "pending1: 0 -1 -1 -1 -1 -1", "commits: 1", "log0: 1 " + kind + " 1 9 9 1", "order: 0");
        }
    }

    /** "The procedure is the same for RENEWED and SUPPLIED." RENEWED, for a LOAD. */
    private static void renewedLoadKeepsTheVersion() {
        Run run = new Run(2, 1, 4, 1);
        run.store(1, 0, 7);
        run.giveBack(1, 0);
        run.load(0, 0);
        run.given(run.x.advance(0, 10), DONE);
        run.given(run.x.issue(0, LOAD, 0, 0), SENT);
        run.given(run.x.deliverRequest(0), RENEWED);
        run.due(run.x.deliverReply(0), DONE, "copy0.0: 1 1 15 7", "pending0: 0 -1 -1 -1 -1 -1",
                "commits: 3", "log2: 0 1 0 0 7 11", "order: 0 1 2");
    }

    /** The same: RENEWED, for a write; "the state ... OWNED" on a copy that was LEASED. */
    private static void renewedWriteUpgradesTheCopy() {
        Run run = new Run(2, 1, 4, 1);
        run.load(0, 0);
        run.given(run.x.issue(0, ADD, 0, 6), SENT);
        run.given(run.x.deliverRequest(0), RENEWED);
        run.due(run.x.deliverReply(0), DONE, "clock0: 5", "copy0.0: 2 5 5 6", "line0: 0 0 4 0 6 -1",
                "pending0: 0 -1 -1 -1 -1 -1", "commits: 2", "log1: 0 3 0 6 6 5", "order: 0 1");
    }

    /** The same: SUPPLIED, on a copy of an older version. */
    private static void suppliedReplyReplacesTheVersion() {
        Run run = new Run(2, 1, 4, 1);
        run.load(0, 0);
        run.store(1, 0, 7);
        run.giveBack(1, 0);
        run.given(run.x.issue(0, ADD, 0, 1), SENT);
        run.given(run.x.deliverRequest(0), SUPPLIED);
        run.due(run.x.deliverReply(0), DONE, "clock0: 6", "copy0.0: 2 6 6 8", "line0: 0 5 5 7 8 -1",
                "pending0: 0 -1 -1 -1 -1 -1", "commits: 3", "log2: 0 3 0 1 8 6", "order: 0 1 2");
    }

    /** "gets the reply's written and until": not what the home has by now. */
    private static void replyCarriesTheTimesItWasSentWith() {
        Run run = new Run(3, 1, 4, 1);
        run.given(run.x.issue(0, LOAD, 0, 0), SENT);
        run.given(run.x.deliverRequest(0), SUPPLIED);
        run.given(run.x.advance(1, 40), DONE);
        run.load(1, 0);
        run.store(2, 0, 7);
        run.giveBack(2, 0);
        run.due(run.x.deliverReply(0), DONE, "copy0.0: 1 0 4 0", "pending0: 0 -1 -1 -1 -1 -1",
                "commits: 3", "log2: 0 1 0 0 0 0", "order: 2 0 1");
    }

    /** "in particular a recall for core and this line stays in flight" */
    private static void leavesTheRecall() {
        Run run = new Run(2, 1, 4, 1);
        run.given(run.x.issue(0, STORE, 0, 7), SENT);
        run.given(run.x.deliverRequest(0), SUPPLIED);
        run.given(run.x.issue(1, LOAD, 0, 0), SENT);
        run.given(run.x.deliverRequest(1), BOUNCED);
        run.due(run.x.deliverReply(0), DONE, "clock0: 1", "copy0.0: 2 1 1 7", "line0: 0 0 0 0 7 -1",
                "pending0: 0 -1 -1 -1 -1 -1", "commits: 1", "log0: 0 2 0 7 7 1", "order: 0");
        same(run.x.recallFlying(0, 0), true);
    }

    /** "nothing is pending for core; the reply is gone": it is delivered once. */
    private static void replyIsGone() {
        Run run = new Run(2, 2, 4, 2);
        run.load(0, 0);
        run.due(run.x.deliverReply(0), NOTHING);
        run.due(run.x.deliverRequest(0), NOTHING);
        run.due(run.x.issue(0, STORE, 1, 3), SENT, "pending0: 10 2 1 3 -1 -1");
        run.due(run.x.deliverReply(0), NOTHING);
    }

    /** "2. ... NOTHING": a bounced request has no reply. */
    private static void nothingAfterABounce() {
        Run run = new Run(2, 1, 4, 1);
        run.store(0, 0, 7);
        run.given(run.x.issue(1, LOAD, 0, 0), SENT);
        run.given(run.x.deliverRequest(1), BOUNCED);
        run.due(run.x.deliverReply(1), NOTHING);
    }

    /** "made now if absent": the copy takes the last way, and no more than that. */
    private static void copyTakesTheLastWay() {
        Run run = new Run(2, 8, 4, 4);
        for (int address = 0; address < 4; address++) {
            run.store(0, address, address);
        }
        for (int address = 0; address < 4; address++) {
            same(run.x.copy(0, address, STATE), OWNED);
            same(run.x.copy(0, address, VALUE), address);
        }
        run.due(run.x.issue(0, LOAD, 4, 0), NO_ROOM);
    }

    /** "committed ... by the rule in Promise 1": into the last place of the log. */
    private static void replyTakesTheLastEntry() {
        Run run = new Run(2, 2, 4, 1);
        run.store(0, 0, 7);
        run.fillLog(0, 0, 63);
        run.given(run.x.issue(1, STORE, 1, 9), SENT);
        run.given(run.x.deliverRequest(1), SUPPLIED);
        run.given(run.x.deliverReply(1), DONE);
        same(run.x.commits(), 64);
        same(told(run.x).get("log63"), "1 2 1 9 9 1");
    }

    /** "The home, other copies, other clocks and other messages do not change" */
    private static void changesNothingElse() {
        Run run = busy();
        run.given(run.x.issue(3, LOAD, 5, 0), SENT);
        run.given(run.x.deliverRequest(3), SUPPLIED);
        run.due(run.x.deliverReply(3), DONE, "copy3.5: 1 0 5 0", "pending3: 0 -1 -1 -1 -1 -1",
                "commits: 5", "log4: 3 1 5 0 0 1", "order: 2 0 1 3 4");
        run.due(run.x.deliverReply(2), DONE, "clock2: 1", "copy2.4: 2 1 1 5", "line4: 2 0 0 0 5 -1",
                "pending2: 0 -1 -1 -1 -1 -1", "commits: 6", "log5: 2 2 4 5 5 1", "order: 2 0 1 3 4 5");
    }
}
