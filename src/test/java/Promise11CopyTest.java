/** Promise 11: copy. */
public final class Promise11CopyTest extends Checks {
    private static final int[] FIELDS = {STATE, WRITTEN, UNTIL, VALUE};

    public static void main(String[] args) {
        badArguments();
        absent();
        leasedAndOwned();
        absentAgain();
        valuesBelongToTheLine();
        staleCopyKeepsItsValue();
        badFieldsInEveryState();
        valueOfMinusOne();
        endedLease();
        absentWhileTheReplyFlies();
        firstAndLastPair();
        finish();
    }

    private static void tells(Run run, int core, int address, int... answers) {
        for (int i = 0; i < FIELDS.length; i++) {
            run.due(run.x.copy(core, address, FIELDS[i]), answers[i]);
        }
    }

    /** "Bad core or address, or field not one of STATE, WRITTEN, UNTIL, VALUE: BAD." */
    private static void badArguments() {
        Run run = new Run(2, 2, 4, 2);
        run.store(0, 0, 7);
        for (int field : FIELDS) {
            for (int core : new int[] {LOWEST, -1, 2, 4, HIGHEST}) {
                run.due(run.x.copy(core, 0, field), BAD);
            }
            for (int address : new int[] {LOWEST, -1, 2, 8, HIGHEST}) {
                run.due(run.x.copy(0, address, field), BAD);
            }
        }
        int[] wrong = {LOWEST, -1, KIND, CORE, ADDRESS, OPERAND, TIME, OWNER, LATEST, RETURNING, 12, HIGHEST};
        for (int field : wrong) {
            run.due(run.x.copy(0, 0, field), BAD);
        }
    }

    /** "STATE: ABSENT"; the others "-1 if ABSENT" */
    private static void absent() {
        tells(new Run(2, 2, 4, 2), 1, 1, ABSENT, -1, -1, -1);
    }

    /** "STATE: ... LEASED or OWNED", "WRITTEN, UNTIL: the copy's times" */
    private static void leasedAndOwned() {
        Run run = new Run(2, 2, 4, 2);
        run.load(1, 0);
        run.store(1, 1, -8);
        run.given(run.x.advance(1, 5), DONE);
        run.given(run.x.issue(1, LOAD, 1, 0), DONE);
        tells(run, 1, 0, LEASED, 0, 4, 0);
        tells(run, 1, 1, OWNED, 1, 6, -8);
        tells(run, 0, 0, ABSENT, -1, -1, -1);
        tells(run, 0, 1, ABSENT, -1, -1, -1);
    }

    /** "-1 if ABSENT", after a copy too. */
    private static void absentAgain() {
        Run run = new Run(2, 2, 4, 2);
        run.store(1, 1, 8);
        run.given(run.x.evict(1, 1), RETURNED);
        tells(run, 1, 1, ABSENT, -1, -1, -1);
    }

    /** "VALUE: the value of the copy's version": of this line, where two have the same written time. */
    private static void valuesBelongToTheLine() {
        Run run = new Run(2, 3, 4, 3);
        run.store(0, 0, 7);
        run.store(0, 1, 8);
        run.load(0, 2);
        run.given(run.x.issue(0, LOAD, 0, 0), DONE);
        tells(run, 0, 0, OWNED, 1, 1, 7);
        tells(run, 0, 1, OWNED, 1, 1, 8);
        tells(run, 0, 2, LEASED, 0, 5, 0);
    }

    /** The same: of its version, not of the latest one. */
    private static void staleCopyKeepsItsValue() {
        Run run = new Run(2, 1, 4, 1);
        run.store(0, 0, 7);
        run.given(run.x.issue(1, STORE, 0, 8), SENT);
        run.given(run.x.deliverRequest(1), BOUNCED);
        run.given(run.x.deliverRecall(0, 0), YIELDED);
        run.given(run.x.deliverWriteBack(0), DONE);
        run.given(run.x.deliverRequest(1), SUPPLIED);
        run.given(run.x.deliverReply(1), DONE);
        tells(run, 0, 0, LEASED, 1, 1, 7);
        tells(run, 1, 0, OWNED, 2, 2, 8);
    }

    /** "field not one of ...: BAD", for an ABSENT and a LEASED copy as well. */
    private static void badFieldsInEveryState() {
        Run run = new Run(2, 1, 4, 1);
        run.load(1, 0);
        for (int field : new int[] {LOWEST, -1, KIND, CORE, ADDRESS, OPERAND, TIME, OWNER, LATEST, RETURNING, 12}) {
            run.due(run.x.copy(0, 0, field), BAD);
            run.due(run.x.copy(1, 0, field), BAD);
        }
    }

    /** "VALUE: ... -1 if ABSENT": a copy of a version of -1 tells the same, but not its STATE. */
    private static void valueOfMinusOne() {
        Run run = new Run(2, 1, 4, 1);
        run.store(0, 0, -1);
        tells(run, 0, 0, OWNED, 1, 1, -1);
        tells(run, 1, 0, ABSENT, -1, -1, -1);
    }

    /** "WRITTEN, UNTIL: the copy's times": a lease that has ended is told as it is. */
    private static void endedLease() {
        Run run = new Run(2, 1, 4, 1);
        run.load(0, 0);
        run.given(run.x.advance(0, 64), DONE);
        tells(run, 0, 0, LEASED, 0, 4, 0);
    }

    /** "STATE: ABSENT": while the reply flies there is no copy yet. */
    private static void absentWhileTheReplyFlies() {
        Run run = new Run(2, 1, 4, 1);
        run.given(run.x.issue(0, STORE, 0, 5), SENT);
        tells(run, 0, 0, ABSENT, -1, -1, -1);
        run.given(run.x.deliverRequest(0), SUPPLIED);
        tells(run, 0, 0, ABSENT, -1, -1, -1);
    }

    /** The first and the last pair of the largest object. */
    private static void firstAndLastPair() {
        Run run = new Run(4, 8, 4, 4);
        run.store(0, 0, LOWEST);
        run.store(3, 7, HIGHEST);
        tells(run, 0, 0, OWNED, 1, 1, LOWEST);
        tells(run, 3, 7, OWNED, 1, 1, HIGHEST);
        tells(run, 0, 7, ABSENT, -1, -1, -1);
        tells(run, 3, 0, ABSENT, -1, -1, -1);
    }
}
