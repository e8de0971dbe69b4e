/** Promise 13: line. */
public final class Promise13LineTest extends Checks {
    private static final int[] FIELDS = {OWNER, WRITTEN, UNTIL, VALUE, LATEST, RETURNING};

    public static void main(String[] args) {
        badArguments();
        atTheStart();
        valueIsTheHomesAndLatestTheNewest();
        returningTellsTheWriteBacksUntil();
        latestAfterAdds();
        latestBeforeTheFirstWrite();
        latestOfZero();
        ownerFromRequestToWriteBack();
        readersDoNotOwn();
        returningAfterARecall();
        lastLine();
        finish();
    }

    private static void tells(Run run, int address, int... answers) {
        for (int i = 0; i < FIELDS.length; i++) {
            run.due(run.x.line(address, FIELDS[i]), answers[i]);
        }
    }

    /** "Bad address, or field not one of OWNER, WRITTEN, UNTIL, VALUE, LATEST, RETURNING: BAD." */
    private static void badArguments() {
        Run run = new Run(2, 2, 4, 2);
        run.store(0, 0, 7);
        for (int field : FIELDS) {
            for (int address : new int[] {LOWEST, -1, 2, 8, HIGHEST}) {
                run.due(run.x.line(address, field), BAD);
            }
        }
        for (int field : new int[] {LOWEST, -1, STATE, KIND, CORE, ADDRESS, OPERAND, TIME, 12, HIGHEST}) {
            run.due(run.x.line(0, field), BAD);
        }
    }

    /** OWNER "-1 if none", LATEST "0 if none was made by a STORE or ADD", RETURNING "-1 if none" */
    private static void atTheStart() {
        tells(new Run(2, 2, 4, 2), 1, -1, 0, 0, 0, 0, -1);
    }

    /** "the version named by the home's written time, also while the line has an owner" */
    private static void valueIsTheHomesAndLatestTheNewest() {
        Run run = new Run(2, 2, 4, 2);
        run.load(0, 1);
        run.store(1, 1, 7);
        tells(run, 1, 1, 0, 4, 0, 7, -1);
        tells(run, 0, -1, 0, 0, 0, 0, -1);
        run.giveBack(1, 1);
        tells(run, 1, -1, 5, 5, 7, 7, -1);
        run.store(0, 1, 0);
        tells(run, 1, 0, 5, 5, 7, 0, -1);
    }

    /** "RETURNING: the until carried by the write-back in flight, -1 if none" */
    private static void returningTellsTheWriteBacksUntil() {
        Run run = new Run(2, 1, 4, 1);
        run.store(0, 0, 7);
        run.given(run.x.advance(0, 6), DONE);
        run.given(run.x.issue(0, LOAD, 0, 0), DONE);
        tells(run, 0, 0, 0, 0, 0, 7, -1);
        run.given(run.x.evict(0, 0), RETURNED);
        tells(run, 0, 0, 0, 0, 0, 7, 7);
        run.given(run.x.deliverWriteBack(0), DONE);
        tells(run, 0, -1, 1, 7, 7, 7, -1);
    }

    /** "LATEST: the value of the line's version with the greatest written time of all made so far" */
    private static void latestAfterAdds() {
        Run run = new Run(2, 2, 4, 2);
        run.store(0, 0, 7);
        run.store(0, 1, 70);
        run.given(run.x.issue(0, ADD, 0, 5), DONE);
        run.given(run.x.issue(0, LOAD, 0, 0), DONE);
        run.given(run.x.issue(0, ADD, 0, -20), DONE);
        run.due(run.x.line(0, LATEST), -8);
        run.due(run.x.line(1, LATEST), 70);
    }

    /** "LATEST: ... 0 if none was made by a STORE or ADD": LOADs and a write not yet committed make none. */
    private static void latestBeforeTheFirstWrite() {
        Run run = new Run(2, 2, 4, 2);
        run.load(0, 0);
        run.store(0, 1, 7);
        run.given(run.x.issue(1, STORE, 0, 9), SENT);
        run.given(run.x.deliverRequest(1), SUPPLIED);
        run.due(run.x.line(0, LATEST), 0);
        run.given(run.x.deliverReply(1), DONE);
        run.due(run.x.line(0, LATEST), 9);
    }

    /** The same: a version can have the value 0 after others. */
    private static void latestOfZero() {
        Run run = new Run(2, 1, 4, 1);
        run.store(0, 0, 7);
        run.given(run.x.issue(0, STORE, 0, 0), DONE);
        run.due(run.x.line(0, LATEST), 0);
    }

    /** "OWNER: the home's owner": from the request's delivery to the write-back's, -1 before and after. */
    private static void ownerFromRequestToWriteBack() {
        Run run = new Run(4, 1, 4, 1);
        run.given(run.x.issue(3, ADD, 0, 7), SENT);
        run.due(run.x.line(0, OWNER), -1);
        run.given(run.x.deliverRequest(3), SUPPLIED);
        run.due(run.x.line(0, OWNER), 3);
        run.given(run.x.deliverReply(3), DONE);
        run.due(run.x.line(0, OWNER), 3);
        run.given(run.x.evict(3, 0), RETURNED);
        run.due(run.x.line(0, OWNER), 3);
        run.given(run.x.deliverWriteBack(0), DONE);
        run.due(run.x.line(0, OWNER), -1);
        run.store(0, 0, 1);
        run.due(run.x.line(0, OWNER), 0);
    }

    /** The same: a LOAD makes no owner. */
    private static void readersDoNotOwn() {
        Run run = new Run(2, 1, 4, 1);
        run.load(1, 0);
        tells(run, 0, -1, 0, 4, 0, 0, -1);
    }

    /** "RETURNING: the until carried", by a recalled copy's write-back too, also while the copy lives on. */
    private static void returningAfterARecall() {
        Run run = new Run(2, 1, 4, 1);
        run.store(0, 0, 7);
        run.given(run.x.advance(0, 3), DONE);
        run.given(run.x.issue(0, LOAD, 0, 0), DONE);
        run.given(run.x.issue(1, LOAD, 0, 0), SENT);
        run.given(run.x.deliverRequest(1), BOUNCED);
        run.due(run.x.line(0, RETURNING), -1);
        run.given(run.x.deliverRecall(0, 0), YIELDED);
        run.due(run.x.line(0, RETURNING), 4);
    }

    /** The last line of the largest object, and the one beside it. */
    private static void lastLine() {
        Run run = new Run(4, 8, 4, 4);
        run.store(3, 7, HIGHEST);
        tells(run, 7, 3, 0, 0, 0, HIGHEST, -1);
        tells(run, 6, -1, 0, 0, 0, 0, -1);
        run.due(run.x.line(8, OWNER), BAD);
    }
}
