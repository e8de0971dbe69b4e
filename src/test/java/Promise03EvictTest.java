/** Promise 3: evict. */
public final class Promise03EvictTest extends Checks {
    public static void main(String[] args) {
        badArguments();
        waitsForAnyLine();
        nothingToEvict();
        dropsLeased();
        returnsOwned();
        leavesTheRecall();
        dropsAYieldedCopyBesideItsWriteBack();
        finish();
    }

    private static void badArguments() {
        Run run = new Run(2, 2, 4, 2);
        run.store(0, 0, 7);
        for (int core : new int[] {LOWEST, -1, 2, 4, HIGHEST}) {
            run.due(run.x.evict(core, 0), BAD);
        }
        for (int address : new int[] {LOWEST, -1, 2, 8, HIGHEST}) {
            run.due(run.x.evict(0, address), BAD);
        }
    }

    private static void waitsForAnyLine() {
        Run run = new Run(2, 3, 4, 2);
        run.load(0, 0);
        run.given(run.x.issue(0, STORE, 1, 5), SENT);
        run.due(run.x.evict(0, 0), WAITING);
        run.due(run.x.evict(0, 1), WAITING);
        run.due(run.x.evict(0, 2), WAITING);
        run.due(run.x.evict(0, 3), BAD);
        run.given(run.x.deliverRequest(0), SUPPLIED);
        run.due(run.x.evict(0, 0), WAITING);
        run.given(run.x.deliverReply(0), DONE);
        run.due(run.x.evict(0, 0), DROPPED, "copy0.0: 0 -1 -1 -1");
    }

    private static void nothingToEvict() {
        Run run = new Run(2, 2, 4, 2);
        run.load(0, 0);
        run.due(run.x.evict(0, 1), NOTHING);
        run.due(run.x.evict(1, 0), NOTHING);
    }

    private static void dropsLeased() {
        Run run = new Run(2, 2, 4, 2);
        run.load(0, 0);
        run.load(0, 1);
        run.load(1, 0);
        run.due(run.x.evict(0, 0), DROPPED, "copy0.0: 0 -1 -1 -1");
        run.due(run.x.evict(0, 0), NOTHING);
        run.due(run.x.deliverWriteBack(0), NOTHING);
    }

    private static void returnsOwned() {
        Run run = new Run(2, 2, 4, 2);
        run.store(0, 0, 7);
        run.given(run.x.advance(0, 8), DONE);
        run.given(run.x.issue(0, LOAD, 0, 0), DONE);
        run.due(run.x.evict(0, 0), RETURNED, "copy0.0: 0 -1 -1 -1", "line0: 0 0 0 0 7 9");
        run.due(run.x.evict(0, 0), NOTHING);
        run.due(run.x.deliverWriteBack(0), DONE, "line0: -1 1 9 7 7 -1");
    }

    private static void leavesTheRecall() {
        Run run = new Run(2, 1, 4, 1);
        run.store(0, 0, 7);
        run.given(run.x.issue(1, LOAD, 0, 0), SENT);
        run.given(run.x.deliverRequest(1), BOUNCED);
        run.due(run.x.evict(0, 0), RETURNED, "copy0.0: 0 -1 -1 -1", "line0: 0 0 0 0 7 1");
        same(run.x.recallFlying(0, 0), true);
    }

    private static void dropsAYieldedCopyBesideItsWriteBack() {
        Run run = new Run(2, 1, 4, 1);
        run.store(0, 0, 7);
        run.given(run.x.issue(1, LOAD, 0, 0), SENT);
        run.given(run.x.deliverRequest(1), BOUNCED);
        run.given(run.x.deliverRecall(0, 0), YIELDED);
        run.due(run.x.evict(0, 0), DROPPED, "copy0.0: 0 -1 -1 -1");
        run.due(run.x.deliverWriteBack(0), DONE, "line0: -1 1 1 7 7 -1");
    }
}
