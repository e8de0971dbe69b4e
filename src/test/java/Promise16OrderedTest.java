/** Promise 16: ordered. */
public final class Promise16OrderedTest extends Checks {
    public static void main(String[] args) {
        emptyLog();
        badRanks();
        laterCommitEarlierInTime();
        equalTimesByIndex();
        fullLogBackwards();
        fullLogOfOneTime();
        lastRankAndTheNext();
        laterEntriesMoveTheRanks();
        finish();
    }

    private static void tells(Run run, int... indices) {
        for (int rank = 0; rank < indices.length; rank++) {
            run.due(run.x.ordered(rank), indices[rank]);
        }
        run.due(run.x.ordered(indices.length), BAD);
    }

    /** "Rank not in 0..commits()-1: BAD." Of an empty log, every rank. */
    private static void emptyLog() {
        Run run = new Run(2, 1, 4, 1);
        run.given(run.x.issue(0, LOAD, 0, 0), SENT);
        for (int rank : new int[] {LOWEST, -1, 0, 1, 63, 64, HIGHEST}) {
            run.due(run.x.ordered(rank), BAD);
        }
    }

    /** The same, of a log with entries. */
    private static void badRanks() {
        Run run = new Run(2, 1, 4, 1);
        run.store(0, 0, 7);
        run.given(run.x.issue(0, LOAD, 0, 0), DONE);
        for (int rank : new int[] {LOWEST, -1, 2, 63, 64, HIGHEST}) {
            run.due(run.x.ordered(rank), BAD);
        }
    }

    /** "entries by smaller TIME first" */
    private static void laterCommitEarlierInTime() {
        Run run = new Run(3, 3, 4, 3);
        run.given(run.x.advance(0, 30), DONE);
        run.given(run.x.advance(1, 20), DONE);
        run.given(run.x.advance(2, 10), DONE);
        run.load(0, 0);
        run.load(2, 2);
        run.load(1, 1);
        tells(run, 1, 2, 0);
    }

    /** "equal TIMEs by smaller index first" */
    private static void equalTimesByIndex() {
        Run run = new Run(3, 1, 16, 1);
        run.given(run.x.advance(1, 3), DONE);
        run.load(1, 0);
        run.load(0, 0);
        run.load(2, 0);
        run.given(run.x.issue(1, LOAD, 0, 0), DONE);
        run.given(run.x.issue(0, LOAD, 0, 0), DONE);
        tells(run, 1, 2, 4, 0, 3);
    }

    /** "the index of the entry with rank entries before it in that order", of a full log. */
    private static void fullLogBackwards() {
        Run run = new Run(2, 2, 1, 1);
        run.given(run.x.advance(0, 50), DONE);
        run.store(0, 0, 7);
        run.fillLog(0, 0, 32);
        run.store(1, 1, 8);
        for (int i = 33; i < 64; i++) {
            run.given(run.x.issue(1, ADD, 1, 1), DONE);
        }
        int[] indices = new int[64];
        for (int rank = 0; rank < 64; rank++) {
            indices[rank] = (rank + 32) % 64;
        }
        tells(run, indices);
    }

    /** "equal TIMEs by smaller index first": 64 of one time, by two cores and of two lines. */
    private static void fullLogOfOneTime() {
        Run run = new Run(2, 2, 4, 2);
        run.store(0, 0, 7);
        run.store(1, 1, 8);
        for (int i = 2; i < 64; i++) {
            run.given(run.x.issue(i % 2, LOAD, i % 2, 0), DONE);
        }
        int[] indices = new int[64];
        for (int rank = 0; rank < 64; rank++) {
            same(run.x.log(rank, TIME), 1);
            indices[rank] = rank;
        }
        tells(run, indices);
        run.due(run.x.ordered(-1), BAD);
    }

    /** "Rank not in 0..commits()-1": the edge moves with each commit, not with what is pending. */
    private static void lastRankAndTheNext() {
        Run run = new Run(2, 2, 4, 1);
        run.store(0, 0, 7);
        run.given(run.x.issue(1, LOAD, 1, 0), SENT);
        for (int entries = 1; entries < 63; entries++) {
            run.due(run.x.ordered(entries - 1), entries - 1);
            run.due(run.x.ordered(entries), BAD);
            run.given(run.x.issue(0, LOAD, 0, 0), DONE);
        }
        run.due(run.x.ordered(62), 62);
        run.due(run.x.ordered(63), BAD);
        run.given(run.x.deliverRequest(1), SUPPLIED);
        run.given(run.x.deliverReply(1), DONE);
        tells(run, firstThenAllBefore(64));
    }

    /** The last entry's time is 0, all others' are 1. */
    private static int[] firstThenAllBefore(int entries) {
        int[] indices = new int[entries];
        indices[0] = entries - 1;
        for (int rank = 1; rank < entries; rank++) {
            indices[rank] = rank - 1;
        }
        return indices;
    }

    /** "smaller TIME first": a new entry can come first, last or in between, and moves the ranks after it. */
    private static void laterEntriesMoveTheRanks() {
        Run run = new Run(4, 4, 4, 1);
        run.given(run.x.advance(0, 20), DONE);
        run.given(run.x.advance(1, 30), DONE);
        run.given(run.x.advance(2, 10), DONE);
        run.given(run.x.advance(3, 25), DONE);
        run.load(0, 0);
        tells(run, 0);
        run.load(1, 1);
        tells(run, 0, 1);
        run.load(2, 2);
        tells(run, 2, 0, 1);
        run.load(3, 3);
        tells(run, 2, 0, 3, 1);
    }
}
