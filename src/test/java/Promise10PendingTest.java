/** Promise 10: pending. */
public final class Promise10PendingTest extends Checks {
    private static final int[] FIELDS = {STATE, KIND, ADDRESS, OPERAND, WRITTEN, UNTIL};

    public static void main(String[] args) {
        badArguments();
        idle();
        asking();
        loadHasNoOperand();
        supplied();
        renewed();
        idleAgain();
        badFieldsInEveryPhase();
        firstAndLastAddress();
        operandOfMinusOne();
        askingAfterABounce();
        idleAfterHitsAndRefusals();
        finish();
    }

    private static void tells(Run run, int core, int... answers) {
        for (int i = 0; i < FIELDS.length; i++) {
            run.due(run.x.pending(core, FIELDS[i]), answers[i]);
        }
    }

    /** "Bad core, or field not one of STATE, KIND, ADDRESS, OPERAND, WRITTEN, UNTIL: BAD." */
    private static void badArguments() {
        Run run = new Run(2, 2, 4, 2);
        run.given(run.x.issue(0, STORE, 1, 7), SENT);
        run.given(run.x.deliverRequest(0), SUPPLIED);
        for (int core : new int[] {LOWEST, -1, 2, 4, HIGHEST}) {
            for (int field : FIELDS) {
                run.due(run.x.pending(core, field), BAD);
            }
        }
        for (int field : new int[] {LOWEST, -1, CORE, VALUE, TIME, OWNER, LATEST, RETURNING, 12, HIGHEST}) {
            run.due(run.x.pending(0, field), BAD);
        }
    }

    /** "IDLE if nothing is pending"; the others "-1 if IDLE" */
    private static void idle() {
        tells(new Run(2, 2, 4, 2), 1, IDLE, -1, -1, -1, -1, -1);
    }

    /** "otherwise ASKING"; WRITTEN and UNTIL "-1 if there is none (phase IDLE or ASKING)" */
    private static void asking() {
        Run run = new Run(2, 2, 4, 2);
        run.given(run.x.issue(1, ADD, 1, -9), SENT);
        tells(run, 1, ASKING, ADD, 1, -9, -1, -1);
        tells(run, 0, IDLE, -1, -1, -1, -1, -1);
        run.given(run.x.issue(0, STORE, 0, HIGHEST), SENT);
        tells(run, 0, ASKING, STORE, 0, HIGHEST, -1, -1);
    }

    /** "The OPERAND of a pending LOAD is 0." */
    private static void loadHasNoOperand() {
        Run run = new Run(2, 2, 4, 2);
        run.given(run.x.issue(1, LOAD, 1, -9), SENT);
        tells(run, 1, ASKING, LOAD, 1, 0, -1, -1);
    }

    /** "WRITTEN, UNTIL: carried by the reply in flight", SUPPLIED */
    private static void supplied() {
        Run run = new Run(2, 2, 4, 2);
        run.store(0, 1, 7);
        run.giveBack(0, 1);
        run.given(run.x.issue(1, LOAD, 1, 3), SENT);
        run.given(run.x.deliverRequest(1), SUPPLIED);
        tells(run, 1, SUPPLIED, LOAD, 1, 0, 1, 5);
    }

    /** The same, RENEWED. */
    private static void renewed() {
        Run run = new Run(2, 2, 4, 2);
        run.load(1, 1);
        run.given(run.x.issue(1, STORE, 1, 3), SENT);
        run.given(run.x.deliverRequest(1), RENEWED);
        tells(run, 1, RENEWED, STORE, 1, 3, 0, 4);
    }

    /** "-1 if IDLE", after an operation too; the next one has none of its reply's times. */
    private static void idleAgain() {
        Run run = new Run(2, 2, 4, 2);
        run.store(1, 1, 3);
        tells(run, 1, IDLE, -1, -1, -1, -1, -1);
        run.given(run.x.issue(1, LOAD, 0, 0), SENT);
        tells(run, 1, ASKING, LOAD, 0, 0, -1, -1);
    }

    /** "field not one of ...: BAD", whatever the phase; a bad field of a core that is IDLE is BAD as well. */
    private static void badFieldsInEveryPhase() {
        Run run = new Run(2, 1, 4, 1);
        refusesFields(run);
        run.given(run.x.issue(0, STORE, 0, 5), SENT);
        refusesFields(run);
        run.given(run.x.deliverRequest(0), SUPPLIED);
        refusesFields(run);
    }

    private static void refusesFields(Run run) {
        for (int field : new int[] {LOWEST, -1, CORE, VALUE, TIME, OWNER, LATEST, RETURNING, 12, HIGHEST}) {
            run.due(run.x.pending(0, field), BAD);
        }
    }

    /** "ADDRESS ... of the operation": the first and the last line. */
    private static void firstAndLastAddress() {
        Run run = new Run(4, 8, 4, 1);
        run.given(run.x.issue(0, LOAD, 0, 0), SENT);
        run.given(run.x.issue(3, ADD, 7, LOWEST), SENT);
        tells(run, 0, ASKING, LOAD, 0, 0, -1, -1);
        tells(run, 3, ASKING, ADD, 7, LOWEST, -1, -1);
    }

    /** "OPERAND: of the operation": also -1, which is no sign of IDLE then. */
    private static void operandOfMinusOne() {
        Run run = new Run(2, 1, 4, 1);
        run.given(run.x.issue(0, STORE, 0, -1), SENT);
        tells(run, 0, ASKING, STORE, 0, -1, -1, -1);
    }

    /** "STATE: the phase": a bounced request is still ASKING. */
    private static void askingAfterABounce() {
        Run run = new Run(2, 1, 4, 1);
        run.store(0, 0, 7);
        run.given(run.x.issue(1, LOAD, 0, 0), SENT);
        run.given(run.x.deliverRequest(1), BOUNCED);
        tells(run, 1, ASKING, LOAD, 0, 0, -1, -1);
    }

    /** "STATE: ... IDLE if nothing is pending": a hit leaves nothing pending, and so does a refused issue. */
    private static void idleAfterHitsAndRefusals() {
        Run run = new Run(2, 2, 4, 1);
        run.store(0, 0, 7);
        run.given(run.x.issue(0, ADD, 0, 1), DONE);
        tells(run, 0, IDLE, -1, -1, -1, -1, -1);
        run.given(run.x.issue(0, ADD, 1, 1), NO_ROOM);
        run.given(run.x.issue(0, 4, 0, 1), BAD);
        tells(run, 0, IDLE, -1, -1, -1, -1, -1);
    }
}
