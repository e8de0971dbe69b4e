/** Promise 13: line. */
public final class Promise13LineTest extends Checks {
    private static final int[] FIELDS = {OWNER, WRITTEN, UNTIL, VALUE, LATEST, RETURNING};

    public static void main(String[] args) {
        badArguments();
        atTheStart();
        valueIsTheHomesAndLatestTheNewest();
        returningTellsTheWriteBacksUntil();
        latestAfterAdds();
        finish();
    }

    private static void tells(Run run, int address, int... answers) {
        for (int i = 0; i < FIELDS.length; i++) {
            run.due(run.x.line(address, FIELDS[i]), answers[i]);
        }
    }

    private static void badArguments() {
        Run run = new Run(2, 2, 4, 2);
        run.store(0, 0, 7);
        for (int field : FIELDS) {
            for (int address : new int[] {LOWEST, -1, 2, 8, HIGHEST}) {
                run.due(run.x.line(address, field), BAD);
            }
        }
        for (int field : new int[] {LOWEST, -1, STATE, KIND, CORE, ADDRESS, OPERAND, TIME, 12, HIGHEST}) {
            run.due(run.x.line(0, field), BAD);
        }
    }

    private static void atTheStart() {
        tells(new Run(2, 2, 4, 2), 1, -1, 0, 0, 0, 0, -1);
    }

    private static void valueIsTheHomesAndLatestTheNewest() {
        Run run = new Run(2, 2, 4, 2);
        run.load(0, 1);
        run.store(1, 1, 7);
        tells(run, 1, 1, 0, 4, 0, 7, -1);
        tells(run, 0, -1, 0, 0, 0, 0, -1);
        run.given(run.x.evict(1, 1), RETURNED);
        run.given(run.x.deliverWriteBack(1), DONE);
        tells(run, 1, -1, 5, 5, 7, 7, -1);
        run.store(0, 1, 0);
        tells(run, 1, 0, 5, 5, 7, 0, -1);
    }

    private static void returningTellsTheWriteBacksUntil() {
        Run run = new Run(2, 1, 4, 1);
        run.store(0, 0, 7);
        run.given(run.x.advance(0, 6), DONE);
        run.given(run.x.issue(0, LOAD, 0, 0), DONE);
        tells(run, 0, 0, 0, 0, 0, 7, -1);
        run.given(run.x.evict(0, 0), RETURNED);
        tells(run, 0, 0, 0, 0, 0, 7, 7);
        run.given(run.x.deliverWriteBack(0), DONE);
        tells(run, 0, -1, 1, 7, 7, 7, -1);
    }

    private static void latestAfterAdds() {
        Run run = new Run(2, 2, 4, 2);
        run.store(0, 0, 7);
        run.store(0, 1, 70);
        run.given(run.x.issue(0, ADD, 0, 5), DONE);
        run.given(run.x.issue(0, LOAD, 0, 0), DONE);
        run.given(run.x.issue(0, ADD, 0, -20), DONE);
        run.due(run.x.line(0, LATEST), -8);
        run.due(run.x.line(1, LATEST), 70);
    }
}
