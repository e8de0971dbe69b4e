/** Promise 15: log. */
public final class Promise15LogTest extends Checks {
    private static final int[] FIELDS = {CORE, KIND, ADDRESS, OPERAND, VALUE, TIME};

    public static void main(String[] args) {
        emptyLog();
        badArguments();
        entriesInOrderOfCommits();
        fullLog();
        lastIndexAndTheNext();
        pendingHasNoEntry();
        badFields();
        valueOfMinusOne();
        entriesStay();
        finish();
    }

    private static void tells(Run run, int index, int... answers) {
        for (int i = 0; i < FIELDS.length; i++) {
            run.due(run.x.log(index, FIELDS[i]), answers[i]);
        }
    }

    /** "With an empty log every index is refused." */
    private static void emptyLog() {
        Run run = new Run(2, 1, 4, 1);
        run.given(run.x.issue(0, LOAD, 0, 0), SENT);
        for (int index : new int[] {LOWEST, -1, 0, 1, 63, 64, HIGHEST}) {
            for (int field : FIELDS) {
                run.due(run.x.log(index, field), BAD);
            }
        }
    }

    /** "Index not in 0..commits()-1, or field not one of CORE, KIND, ADDRESS, OPERAND, VALUE, TIME: BAD." */
    private static void badArguments() {
        Run run = new Run(2, 1, 4, 1);
        run.store(0, 0, 7);
        for (int index : new int[] {LOWEST, -1, 1, 63, 64, HIGHEST}) {
            for (int field : FIELDS) {
                run.due(run.x.log(index, field), BAD);
            }
        }
        for (int field : new int[] {LOWEST, -1, STATE, WRITTEN, UNTIL, OWNER, LATEST, RETURNING, 12, HIGHEST}) {
            run.due(run.x.log(0, field), BAD);
        }
    }

    /** "log(index, field) answers a field of log entry index" */
    private static void entriesInOrderOfCommits() {
        Run run = new Run(3, 2, 4, 2);
        run.given(run.x.issue(0, LOAD, 1, 99), SENT);
        run.given(run.x.issue(2, STORE, 1, -6), SENT);
        run.given(run.x.deliverRequest(0), SUPPLIED);
        run.given(run.x.deliverRequest(2), SUPPLIED);
        run.given(run.x.deliverReply(2), DONE);
        run.given(run.x.deliverReply(0), DONE);
        run.given(run.x.issue(2, ADD, 1, 10), DONE);
        run.given(run.x.issue(2, LOAD, 1, 5), DONE);
        tells(run, 0, 2, STORE, 1, -6, -6, 5);
        tells(run, 1, 0, LOAD, 1, 0, 0, 0);
        tells(run, 2, 2, ADD, 1, 10, 4, 6);
        tells(run, 3, 2, LOAD, 1, 0, 4, 6);
    }

    /** The same, for the last of 64. */
    private static void fullLog() {
        Run run = new Run(2, 1, 4, 1);
        run.store(1, 0, 0);
        for (int i = 1; i < 64; i++) {
            run.given(run.x.issue(1, ADD, 0, i), DONE);
        }
        tells(run, 63, 1, ADD, 0, 63, 63 * 64 / 2, 64);
        run.due(run.x.log(64, TIME), BAD);
    }

    /** "Index not in 0..commits()-1": the edge moves with each commit. */
    private static void lastIndexAndTheNext() {
        Run run = new Run(2, 1, 4, 1);
        run.store(1, 0, 0);
        for (int entries = 1; entries < 64; entries++) {
            run.due(run.x.log(entries - 1, OPERAND), entries - 1);
            run.due(run.x.log(entries, OPERAND), BAD);
            run.given(run.x.issue(1, STORE, 0, entries), DONE);
        }
        run.due(run.x.log(63, OPERAND), 63);
        run.due(run.x.log(64, OPERAND), BAD);
        run.due(run.x.log(-1, OPERAND), BAD);
        run.due(run.x.log(0, OPERAND), 0);
    }

    /** The same: a pending operation has no entry, though a place is kept for it. */
    private static void pendingHasNoEntry() {
        Run run = busy();
        run.due(run.x.log(3, VALUE), 9);
        for (int field : FIELDS) {
            run.due(run.x.log(4, field), BAD);
        }
    }

    /** "field not one of ...: BAD", of the first and of the last entry; a bad index with a bad field too. */
    private static void badFields() {
        Run run = busy();
        for (int field : new int[] {LOWEST, -1, STATE, WRITTEN, UNTIL, OWNER, LATEST, RETURNING, 12, HIGHEST}) {
            run.due(run.x.log(0, field), BAD);
            run.due(run.x.log(3, field), BAD);
            run.due(run.x.log(4, field), BAD);
            run.due(run.x.log(-1, field), BAD);
        }
    }

    /** VALUE and OPERAND can be -1, which is no refusal then. */
    private static void valueOfMinusOne() {
        Run run = new Run(2, 1, 4, 1);
        run.store(0, 0, -1);
        tells(run, 0, 0, STORE, 0, -1, -1, 1);
    }

    /** "of log entry index": an entry stays as it was committed, whatever comes after. */
    private static void entriesStay() {
        Run run = new Run(2, 1, 4, 1);
        run.given(run.x.issue(0, LOAD, 0, 5), SENT);
        run.given(run.x.deliverRequest(0), SUPPLIED);
        run.given(run.x.deliverReply(0), DONE);
        run.store(1, 0, 7);
        run.given(run.x.issue(1, ADD, 0, 1), DONE);
        run.giveBack(1, 0);
        tells(run, 0, 0, LOAD, 0, 0, 0, 0);
        tells(run, 1, 1, STORE, 0, 7, 7, 5);
    }
}
