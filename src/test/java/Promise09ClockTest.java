/** Promise 9: clock. */
public final class Promise09ClockTest extends Checks {
    public static void main(String[] args) {
        badCores();
        tellsEachCoresClock();
        leastAndGreatest();
        refusedCallsDoNotMoveIt();
        finish();
    }

    /** "bad core: BAD" */
    private static void badCores() {
        for (int cores = 2; cores <= 4; cores++) {
            Run run = new Run(cores, 1, 4, 1);
            for (int core : new int[] {LOWEST, -1, cores, 4, HIGHEST}) {
                run.due(run.x.clock(core), BAD);
            }
        }
    }

    /** "clock(core) answers the core's clock" */
    private static void tellsEachCoresClock() {
        Run run = new Run(4, 1, 4, 1);
        run.given(run.x.advance(3, 8), DONE);
        run.given(run.x.advance(1, 2), DONE);
        run.load(0, 0);
        run.store(2, 0, 7);
        run.due(run.x.clock(0), 0);
        run.due(run.x.clock(1), 2);
        run.due(run.x.clock(2), 5);
        run.due(run.x.clock(3), 8);
    }

    /** The same: from 0 at the start, past the limit of advance. */
    private static void leastAndGreatest() {
        Run run = new Run(2, 1, 16, 1);
        run.due(run.x.clock(0), 0);
        run.advanceTo(0, 1000);
        run.due(run.x.clock(0), 1000);
        run.load(0, 0);
        run.store(0, 0, 7);
        run.due(run.x.clock(0), 1017);
        run.due(run.x.clock(1), 0);
    }

    /** The same: "a call so refused changes nothing", so no refused call moves it. */
    private static void refusedCallsDoNotMoveIt() {
        Run run = new Run(2, 1, 4, 1);
        run.given(run.x.advance(0, 3), DONE);
        run.given(run.x.advance(0, 0), BAD);
        run.given(run.x.advance(0, 65), BAD);
        run.given(run.x.issue(0, LOAD, 0, 0), SENT);
        run.given(run.x.advance(0, 1), WAITING);
        run.given(run.x.deliverReply(0), NOTHING);
        run.due(run.x.clock(0), 3);
    }
}
