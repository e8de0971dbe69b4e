/** Promise 14: commits. */
public final class Promise14CommitsTest extends Checks {
    public static void main(String[] args) {
        countsEntriesOnly();
        goesUpToSixtyFour();
        finish();
    }

    private static void countsEntriesOnly() {
        Run run = new Run(2, 1, 4, 1);
        run.due(run.x.commits(), 0);
        run.given(run.x.issue(0, STORE, 0, 7), SENT);
        run.due(run.x.commits(), 0);
        run.given(run.x.deliverRequest(0), SUPPLIED);
        run.due(run.x.commits(), 0);
        run.given(run.x.deliverReply(0), DONE);
        run.due(run.x.commits(), 1);
        run.given(run.x.issue(0, LOAD, 0, 0), DONE);
        run.due(run.x.commits(), 2);
        run.given(run.x.advance(0, 1), DONE);
        run.given(run.x.evict(0, 0), RETURNED);
        run.given(run.x.deliverWriteBack(0), DONE);
        run.due(run.x.commits(), 2);
    }

    private static void goesUpToSixtyFour() {
        Run run = new Run(2, 1, 4, 1);
        run.store(0, 0, 7);
        run.fillLog(0, 0, 64);
        run.due(run.x.issue(0, LOAD, 0, 0), FULL);
        run.due(run.x.commits(), 64);
        run.due(run.x.log(63, TIME), 1);
    }
}
