/** Promise 4: advance. */
public final class Promise04AdvanceTest extends Checks {
    public static void main(String[] args) {
        badArguments();
        addsSteps();
        waitsWhilePending();
        stopsAtThousand();
        commitsGoPastThousand();
        finish();
    }

    private static void badArguments() {
        Run run = new Run(2, 1, 4, 1);
        for (int core : new int[] {LOWEST, -1, 2, 4, HIGHEST}) {
            run.due(run.x.advance(core, 1), BAD);
        }
        for (int steps : new int[] {LOWEST, -1, 0, 65, HIGHEST}) {
            run.due(run.x.advance(0, steps), BAD);
        }
    }

    private static void addsSteps() {
        Run run = new Run(2, 1, 4, 1);
        run.due(run.x.advance(0, 1), DONE, "clock0: 1");
        run.due(run.x.advance(0, 64), DONE, "clock0: 65");
        run.due(run.x.advance(1, 30), DONE, "clock1: 30");
    }

    private static void waitsWhilePending() {
        Run run = new Run(2, 1, 4, 1);
        run.given(run.x.issue(0, LOAD, 0, 0), SENT);
        run.due(run.x.advance(0, 1), WAITING);
        run.due(run.x.advance(0, 65), BAD);
        run.due(run.x.advance(1, 1), DONE, "clock1: 1");
        run.given(run.x.deliverRequest(0), SUPPLIED);
        run.due(run.x.advance(0, 1), WAITING);
        run.given(run.x.deliverReply(0), DONE);
        run.due(run.x.advance(0, 1), DONE, "clock0: 1");
    }

    private static void stopsAtThousand() {
        Run run = new Run(2, 1, 4, 1);
        run.advanceTo(0, 960);
        run.due(run.x.advance(0, 41), FULL);
        run.due(run.x.advance(0, 40), DONE, "clock0: 1000");
        run.due(run.x.advance(0, 1), FULL);
        run.due(run.x.advance(0, 64), FULL);
        run.due(run.x.advance(0, 65), BAD);
        run.given(run.x.issue(0, LOAD, 0, 0), SENT);
        run.due(run.x.advance(0, 1), WAITING);
    }

    private static void commitsGoPastThousand() {
        Run run = new Run(2, 1, 16, 1);
        run.advanceTo(0, 1000);
        run.load(0, 0);
        run.store(0, 0, 7);
        same(run.x.clock(0), 1017);
        run.due(run.x.issue(0, STORE, 0, 8), DONE, "clock0: 1018", "copy0.0: 2 1018 1018 8", "line0: 0 0 1016 0 8 -1",
                "commits: 3", "log2: 0 2 0 8 8 1018", "order: 0 1 2");
        run.due(run.x.advance(0, 1), FULL);
    }
}
