/** Promise 4: advance. */
public final class Promise04AdvanceTest extends Checks {
    public static void main(String[] args) {
        badCores();
        badSteps();
        takesOneToSixtyFour();
        waitsInEveryPhase();
        badComesBeforeWaitingAndFull();
        waitingComesBeforeFull();
        fullPastThousand();
        thousandIsAccepted();
        commitsAreNotHeldBack();
        fullWithAClockPastThousand();
        eachCoreHasItsOwnLimit();
        changesNothingElse();
        finish();
    }

    /** "1. Bad core ... : BAD." */
    private static void badCores() {
        Run run = new Run(2, 1, 4, 1);
        for (int core : new int[] {LOWEST, -1, 2, 4, HIGHEST}) {
            run.due(run.x.advance(core, 1), BAD);
        }
    }

    /** "1. ... or steps not in 1..64: BAD." Also where clock + steps would wrap around. */
    private static void badSteps() {
        Run run = new Run(2, 1, 4, 1);
        run.given(run.x.advance(0, 10), DONE);
        for (int steps : new int[] {LOWEST, -64, -10, -1, 0, 65, 1000, HIGHEST - 10, HIGHEST}) {
            run.due(run.x.advance(0, steps), BAD);
        }
    }

    /** "4. Otherwise steps is added to the clock of core: DONE." For each number of steps. */
    private static void takesOneToSixtyFour() {
        for (int steps = 1; steps <= 64; steps++) {
            Run run = new Run(2, 1, 4, 1);
            run.due(run.x.advance(0, steps), DONE, "clock0: " + steps);
            run.due(run.x.advance(0, steps), DONE, "clock0: " + 2 * steps);
        }
    }

    /** "2. Core has a pending operation: WAITING." In each phase, and not for another core's. */
    private static void waitsInEveryPhase() {
        Run run = new Run(2, 1, 4, 1);
        run.given(run.x.issue(0, LOAD, 0, 0), SENT);
        run.due(run.x.advance(0, 1), WAITING);
        run.due(run.x.advance(1, 1), DONE, "clock1: 1");
        run.given(run.x.deliverRequest(0), SUPPLIED);
        run.due(run.x.advance(0, 1), WAITING);
        run.given(run.x.deliverReply(0), DONE);
        run.due(run.x.advance(0, 1), DONE, "clock0: 1");
        run.given(run.x.issue(0, STORE, 0, 0), SENT);
        run.given(run.x.deliverRequest(0), RENEWED);
        run.due(run.x.advance(0, 1), WAITING);
    }

    /** "In this order": 1 before 2 and 3. */
    private static void badComesBeforeWaitingAndFull() {
        Run run = new Run(2, 1, 4, 1);
        run.advanceTo(0, 1000);
        run.due(run.x.advance(0, 65), BAD);
        run.due(run.x.advance(0, 0), BAD);
        run.given(run.x.issue(0, LOAD, 0, 0), SENT);
        run.due(run.x.advance(0, 65), BAD);
        run.due(run.x.advance(0, 0), BAD);
    }

    /** "In this order": 2 before 3. */
    private static void waitingComesBeforeFull() {
        Run run = new Run(2, 1, 4, 1);
        run.advanceTo(0, 1000);
        run.given(run.x.issue(0, LOAD, 0, 0), SENT);
        run.due(run.x.advance(0, 1), WAITING);
    }

    /** "3. Clock + steps > 1000: FULL." A sum of 1001, by the fewest and by the most steps. */
    private static void fullPastThousand() {
        int[][] clockAndSteps = {{937, 64}, {960, 41}, {999, 2}, {1000, 1}, {1000, 64}};
        for (int[] pair : clockAndSteps) {
            Run run = new Run(2, 1, 4, 1);
            run.advanceTo(0, pair[0]);
            run.due(run.x.advance(0, pair[1]), FULL);
        }
    }

    /** "A sum of exactly 1000 is accepted." */
    private static void thousandIsAccepted() {
        int[][] clockAndSteps = {{936, 64}, {960, 40}, {998, 2}, {999, 1}};
        for (int[] pair : clockAndSteps) {
            Run run = new Run(2, 1, 4, 1);
            run.advanceTo(0, pair[0]);
            run.due(run.x.advance(0, pair[1]), DONE, "clock0: 1000");
        }
    }

    /** "The limit concerns only this method; commits are not held back by it." */
    private static void commitsAreNotHeldBack() {
        Run run = new Run(2, 1, 16, 1);
        run.advanceTo(0, 1000);
        run.load(0, 0);
        same(run.x.log(0, TIME), 1000);
        run.store(0, 0, 7);
        same(run.x.clock(0), 1017);
        run.due(run.x.issue(0, STORE, 0, 8), DONE, "clock0: 1018", "copy0.0: 2 1018 1018 8", "line0: 0 0 1016 0 8 -1",
                "commits: 3", "log2: 0 2 0 8 8 1018", "order: 0 1 2");
        run.due(run.x.issue(0, ADD, 0, 1), DONE, "clock0: 1019", "copy0.0: 2 1019 1019 9", "line0: 0 0 1016 0 9 -1",
                "commits: 4", "log3: 0 3 0 1 9 1019", "order: 0 1 2 3");
        run.giveBack(0, 0);
        run.load(1, 0);
        same(run.x.clock(1), 1019);
        same(run.x.copy(1, 0, UNTIL), 1035);
    }

    /** "3. Clock + steps > 1000": a clock that a commit took past the limit. */
    private static void fullWithAClockPastThousand() {
        Run run = new Run(2, 1, 16, 1);
        run.advanceTo(0, 1000);
        run.store(0, 0, 7);
        run.given(run.x.issue(0, STORE, 0, 8), DONE);
        same(run.x.clock(0), 1001);
        run.due(run.x.advance(0, 1), FULL);
        run.due(run.x.advance(0, 64), FULL);
        run.due(run.x.advance(0, 0), BAD);
    }

    /** The same: the clock is that of the core. */
    private static void eachCoreHasItsOwnLimit() {
        Run run = new Run(2, 1, 4, 1);
        run.advanceTo(0, 1000);
        run.due(run.x.advance(1, 64), DONE, "clock1: 64");
        run.due(run.x.advance(0, 1), FULL);
    }

    /** "Nothing else changes." */
    private static void changesNothingElse() {
        Run run = busy();
        run.due(run.x.advance(3, 64), DONE, "clock3: 65");
        run.due(run.x.advance(0, 1), DONE, "clock0: 2");
    }
}
