/** Promise 15: log. */
public final class Promise15LogTest extends Checks {
    private static final int[] FIELDS = {CORE, KIND, ADDRESS, OPERAND, VALUE, TIME};

    public static void main(String[] args) {
        emptyLog();
        badArguments();
        entriesInOrderOfCommits();
        fullLog();
        finish();
    }

    private static void tells(Run run, int index, int... answers) {
        for (int i = 0; i < FIELDS.length; i++) {
            run.due(run.x.log(index, FIELDS[i]), answers[i]);
        }
    }

    private static void emptyLog() {
        Run run = new Run(2, 1, 4, 1);
        run.given(run.x.issue(0, LOAD, 0, 0), SENT);
        for (int index : new int[] {LOWEST, -1, 0, 1, 63, 64, HIGHEST}) {
            for (int field : FIELDS) {
                run.due(run.x.log(index, field), BAD);
            }
        }
    }

    private static void badArguments() {
        Run run = new Run(2, 1, 4, 1);
        run.store(0, 0, 7);
        for (int index : new int[] {LOWEST, -1, 1, 63, 64, HIGHEST}) {
            for (int field : FIELDS) {
                run.due(run.x.log(index, field), BAD);
            }
        }
        for (int field : new int[] {LOWEST, -1, STATE, WRITTEN, UNTIL, OWNER, LATEST, RETURNING, 12, HIGHEST}) {
            run.due(run.x.log(0, field), BAD);
        }
    }

    private static void entriesInOrderOfCommits() {
        Run run = new Run(3, 2, 4, 2);
        run.given(run.x.issue(0, LOAD, 1, 99), SENT);
        run.given(run.x.issue(2, STORE, 1, -6), SENT);
        run.given(run.x.deliverRequest(0), SUPPLIED);
        run.given(run.x.deliverRequest(2), SUPPLIED);
        run.given(run.x.deliverReply(2), DONE);
        run.given(run.x.deliverReply(0), DONE);
        run.given(run.x.issue(2, ADD, 1, 10), DONE);
        run.given(run.x.issue(2, LOAD, 1, 5), DONE);
        tells(run, 0, 2, STORE, 1, -6, -6, 5);
        tells(run, 1, 0, LOAD, 1, 0, 0, 0);
        tells(run, 2, 2, ADD, 1, 10, 4, 6);
        tells(run, 3, 2, LOAD, 1, 0, 4, 6);
    }

    private static void fullLog() {
        Run run = new Run(2, 1, 4, 1);
        run.store(1, 0, 0);
        for (int i = 1; i < 64; i++) {
            run.given(run.x.issue(1, ADD, 0, i), DONE);
        }
        tells(run, 63, 1, ADD, 0, 63, 63 * 64 / 2, 64);
        run.due(run.x.log(64, TIME), BAD);
    }
}
