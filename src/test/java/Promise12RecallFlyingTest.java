/** Promise 12: recallFlying. */
public final class Promise12RecallFlyingTest extends Checks {
    public static void main(String[] args) {
        badArguments();
        tellsThePairAlone();
        firstAndLastPair();
        fliesUntilDelivered();
        finish();
    }

    private static Run recalled() {
        Run run = new Run(3, 3, 4, 2);
        run.store(2, 2, 7);
        run.given(run.x.issue(1, LOAD, 2, 0), SENT);
        run.given(run.x.deliverRequest(1), BOUNCED);
        return run;
    }

    /** "false for a bad core or address" */
    private static void badArguments() {
        Run run = recalled();
        for (int core : new int[] {LOWEST, -1, 3, 4, HIGHEST}) {
            same(run.x.recallFlying(core, 2), false);
        }
        for (int address : new int[] {LOWEST, -1, 3, 8, HIGHEST}) {
            same(run.x.recallFlying(2, address), false);
        }
        // Places that a pair of this object would have if only the product were looked at.
        same(run.x.recallFlying(1, 10), false);
        same(run.x.recallFlying(3, -6), false);
    }

    /** "whether a recall for (core, address) is in flight" */
    private static void tellsThePairAlone() {
        Run run = recalled();
        for (int core = 0; core < 3; core++) {
            for (int address = 0; address < 3; address++) {
                run.due(run.x.recallFlying(core, address) ? 1 : 0, core == 2 && address == 2 ? 1 : 0);
            }
        }
        run.given(run.x.deliverRecall(2, 2), YIELDED);
        run.due(run.x.recallFlying(2, 2) ? 1 : 0, 0);
    }

    /** The same, for the first and the last pair of the largest object. */
    private static void firstAndLastPair() {
        Run run = new Run(4, 8, 4, 4);
        run.store(0, 0, 7);
        run.store(3, 7, 8);
        run.given(run.x.issue(1, LOAD, 0, 0), SENT);
        run.given(run.x.issue(2, LOAD, 7, 0), SENT);
        same(run.x.recallFlying(0, 0), false);
        same(run.x.recallFlying(3, 7), false);
        run.given(run.x.deliverRequest(1), BOUNCED);
        run.given(run.x.deliverRequest(2), BOUNCED);
        same(run.x.recallFlying(0, 0), true);
        same(run.x.recallFlying(3, 7), true);
        same(run.x.recallFlying(0, 7), false);
        same(run.x.recallFlying(3, 0), false);
    }

    /** The same: it is in flight until it is delivered, whatever becomes of the copy, the line and the request. */
    private static void fliesUntilDelivered() {
        Run run = recalled();
        run.giveBack(2, 2);
        same(run.x.recallFlying(2, 2), true);
        run.given(run.x.deliverRequest(1), SUPPLIED);
        run.given(run.x.deliverReply(1), DONE);
        same(run.x.recallFlying(2, 2), true);
        run.given(run.x.deliverRecall(2, 2), IGNORED);
        same(run.x.recallFlying(2, 2), false);
    }
}
