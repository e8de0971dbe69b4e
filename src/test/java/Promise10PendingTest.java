/** Promise 10: pending. */
public final class Promise10PendingTest extends Checks {
    private static final int[] FIELDS = {STATE, KIND, ADDRESS, OPERAND, WRITTEN, UNTIL};

    public static void main(String[] args) {
        badArguments();
        idle();
        asking();
        loadHasNoOperand();
        supplied();
        renewed();
        idleAgain();
        finish();
    }

    private static void tells(Run run, int core, int... answers) {
        for (int i = 0; i < FIELDS.length; i++) {
            run.due(run.x.pending(core, FIELDS[i]), answers[i]);
        }
    }

    private static void badArguments() {
        Run run = new Run(2, 2, 4, 2);
        run.given(run.x.issue(0, STORE, 1, 7), SENT);
        run.given(run.x.deliverRequest(0), SUPPLIED);
        for (int core : new int[] {LOWEST, -1, 2, 4, HIGHEST}) {
            for (int field : FIELDS) {
                run.due(run.x.pending(core, field), BAD);
            }
        }
        for (int field : new int[] {LOWEST, -1, CORE, VALUE, TIME, OWNER, LATEST, RETURNING, 12, HIGHEST}) {
            run.due(run.x.pending(0, field), BAD);
        }
    }

    private static void idle() {
        tells(new Run(2, 2, 4, 2), 1, IDLE, -1, -1, -1, -1, -1);
    }

    private static void asking() {
        Run run = new Run(2, 2, 4, 2);
        run.given(run.x.issue(1, ADD, 1, -9), SENT);
        tells(run, 1, ASKING, ADD, 1, -9, -1, -1);
        tells(run, 0, IDLE, -1, -1, -1, -1, -1);
        run.given(run.x.issue(0, STORE, 0, HIGHEST), SENT);
        tells(run, 0, ASKING, STORE, 0, HIGHEST, -1, -1);
    }

    private static void loadHasNoOperand() {
        Run run = new Run(2, 2, 4, 2);
        run.given(run.x.issue(1, LOAD, 1, -9), SENT);
        tells(run, 1, ASKING, LOAD, 1, 0, -1, -1);
    }

    private static void supplied() {
        Run run = new Run(2, 2, 4, 2);
        run.store(0, 1, 7);
        run.given(run.x.evict(0, 1), RETURNED);
        run.given(run.x.deliverWriteBack(1), DONE);
        run.given(run.x.issue(1, LOAD, 1, 3), SENT);
        run.given(run.x.deliverRequest(1), SUPPLIED);
        tells(run, 1, SUPPLIED, LOAD, 1, 0, 1, 5);
    }

    private static void renewed() {
        Run run = new Run(2, 2, 4, 2);
        run.load(1, 1);
        run.given(run.x.issue(1, STORE, 1, 3), SENT);
        run.given(run.x.deliverRequest(1), RENEWED);
        tells(run, 1, RENEWED, STORE, 1, 3, 0, 4);
    }

    private static void idleAgain() {
        Run run = new Run(2, 2, 4, 2);
        run.store(1, 1, 3);
        tells(run, 1, IDLE, -1, -1, -1, -1, -1);
        run.given(run.x.issue(1, LOAD, 0, 0), SENT);
        tells(run, 1, ASKING, LOAD, 0, 0, -1, -1);
    }
}
