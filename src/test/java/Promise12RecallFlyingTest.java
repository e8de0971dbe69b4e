/** Promise 12: recallFlying. */
public final class Promise12RecallFlyingTest extends Checks {
    public static void main(String[] args) {
        badArguments();
        tellsThePairAlone();
        finish();
    }

    private static Run recalled() {
        Run run = new Run(3, 3, 4, 2);
        run.store(2, 2, 7);
        run.given(run.x.issue(1, LOAD, 2, 0), SENT);
        run.given(run.x.deliverRequest(1), BOUNCED);
        return run;
    }

    private static void badArguments() {
        Run run = recalled();
        for (int core : new int[] {LOWEST, -1, 3, 4, HIGHEST}) {
            same(run.x.recallFlying(core, 2), false);
        }
        for (int address : new int[] {LOWEST, -1, 3, 8, HIGHEST}) {
            same(run.x.recallFlying(2, address), false);
        }
        // Places that a pair of this object would have if only the product were looked at.
        same(run.x.recallFlying(1, 10), false);
        same(run.x.recallFlying(3, -6), false);
    }

    private static void tellsThePairAlone() {
        Run run = recalled();
        for (int core = 0; core < 3; core++) {
            for (int address = 0; address < 3; address++) {
                run.due(run.x.recallFlying(core, address) ? 1 : 0, core == 2 && address == 2 ? 1 : 0);
            }
        }
        run.given(run.x.deliverRecall(2, 2), YIELDED);
        run.due(run.x.recallFlying(2, 2) ? 1 : 0, 0);
    }
}
