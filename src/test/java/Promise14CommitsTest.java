/** Promise 14: commits. */
public final class Promise14CommitsTest extends Checks {
    public static void main(String[] args) {
        countsEntriesOnly();
        goesUpToSixtyFour();
        everyNumber();
        refusalsAddNone();
        finish();
    }

    /** "commits() answers the number of log entries": nothing pending or in flight is counted. */
    private static void countsEntriesOnly() {
        Run run = new Run(2, 1, 4, 1);
        run.due(run.x.commits(), 0);
        run.given(run.x.issue(0, STORE, 0, 7), SENT);
        run.due(run.x.commits(), 0);
        run.given(run.x.deliverRequest(0), SUPPLIED);
        run.due(run.x.commits(), 0);
        run.given(run.x.deliverReply(0), DONE);
        run.due(run.x.commits(), 1);
        run.given(run.x.issue(0, LOAD, 0, 0), DONE);
        run.due(run.x.commits(), 2);
        run.given(run.x.advance(0, 1), DONE);
        run.giveBack(0, 0);
        run.due(run.x.commits(), 2);
    }

    /** "0..64" */
    private static void goesUpToSixtyFour() {
        Run run = new Run(2, 1, 4, 1);
        run.store(0, 0, 7);
        run.fillLog(0, 0, 64);
        run.due(run.x.issue(0, LOAD, 0, 0), FULL);
        run.due(run.x.commits(), 64);
        run.due(run.x.log(63, TIME), 1);
    }

    /** "0..64": each number in turn, by hits of every kind. */
    private static void everyNumber() {
        Run run = new Run(2, 1, 4, 1);
        run.due(run.x.commits(), 0);
        run.store(0, 0, 7);
        for (int number = 1; number < 64; number++) {
            run.due(run.x.commits(), number);
            run.given(run.x.issue(0, 1 + number % 3, 0, 1), DONE);
        }
        run.due(run.x.commits(), 64);
        run.given(run.x.issue(0, STORE, 0, 1), FULL);
        run.due(run.x.commits(), 64);
    }

    /** "the number of log entries": a refused call and a call that only sends add none. */
    private static void refusalsAddNone() {
        Run run = busy();
        run.given(run.x.issue(0, 0, 0, 0), BAD);
        run.given(run.x.issue(1, LOAD, 0, 0), WAITING);
        run.given(run.x.deliverReply(1), NOTHING);
        run.given(run.x.deliverRequest(1), BOUNCED);
        run.due(run.x.commits(), 4);
    }
}
