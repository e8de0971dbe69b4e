/** Promise 9: clock. */
public final class Promise09ClockTest extends Checks {
    public static void main(String[] args) {
        badCores();
        tellsEachCoresClock();
        finish();
    }

    private static void badCores() {
        for (int cores = 2; cores <= 4; cores++) {
            Run run = new Run(cores, 1, 4, 1);
            for (int core : new int[] {LOWEST, -1, cores, 4, HIGHEST}) {
                run.due(run.x.clock(core), BAD);
            }
        }
    }

    private static void tellsEachCoresClock() {
        Run run = new Run(4, 1, 4, 1);
        run.given(run.x.advance(3, 8), DONE);
        run.given(run.x.advance(1, 2), DONE);
        run.load(0, 0);
        run.store(2, 0, 7);
        run.due(run.x.clock(0), 0);
        run.due(run.x.clock(1), 2);
        run.due(run.x.clock(2), 5);
        run.due(run.x.clock(3), 8);
    }
}
