/** Promise 16: ordered. */
public final class Promise16OrderedTest extends Checks {
    public static void main(String[] args) {
        emptyLog();
        badRanks();
        laterCommitEarlierInTime();
        equalTimesByIndex();
        fullLogBackwards();
        finish();
    }

    private static void tells(Run run, int... indices) {
        for (int rank = 0; rank < indices.length; rank++) {
            run.due(run.x.ordered(rank), indices[rank]);
        }
        run.due(run.x.ordered(indices.length), BAD);
    }

    private static void emptyLog() {
        Run run = new Run(2, 1, 4, 1);
        run.given(run.x.issue(0, LOAD, 0, 0), SENT);
        for (int rank : new int[] {LOWEST, -1, 0, 1, 63, 64, HIGHEST}) {
            run.due(run.x.ordered(rank), BAD);
        }
    }

    private static void badRanks() {
        Run run = new Run(2, 1, 4, 1);
        run.store(0, 0, 7);
        run.given(run.x.issue(0, LOAD, 0, 0), DONE);
        for (int rank : new int[] {LOWEST, -1, 2, 63, 64, HIGHEST}) {
            run.due(run.x.ordered(rank), BAD);
        }
    }

    private static void laterCommitEarlierInTime() {
        Run run = new Run(3, 3, 4, 3);
        run.given(run.x.advance(0, 30), DONE);
        run.given(run.x.advance(1, 20), DONE);
        run.given(run.x.advance(2, 10), DONE);
        run.load(0, 0);
        run.load(2, 2);
        run.load(1, 1);
        tells(run, 1, 2, 0);
    }

    private static void equalTimesByIndex() {
        Run run = new Run(3, 1, 16, 1);
        run.given(run.x.advance(1, 3), DONE);
        run.load(1, 0);
        run.load(0, 0);
        run.load(2, 0);
        run.given(run.x.issue(1, LOAD, 0, 0), DONE);
        run.given(run.x.issue(0, LOAD, 0, 0), DONE);
        tells(run, 1, 2, 4, 0, 3);
    }

    private static void fullLogBackwards() {
        Run run = new Run(2, 2, 1, 1);
        run.given(run.x.advance(0, 50), DONE);
        run.store(0, 0, 7);
        run.fillLog(0, 0, 32);
        run.store(1, 1, 8);
        for (int i = 33; i < 64; i++) {
            run.given(run.x.issue(1, ADD, 1, 1), DONE);
        }
        int[] indices = new int[64];
        for (int rank = 0; rank < 64; rank++) {
            indices[rank] = (rank + 32) % 64;
        }
        tells(run, indices);
    }
}
