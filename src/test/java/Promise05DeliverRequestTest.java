/** Promise 5: deliverRequest. */
public final class Promise05DeliverRequestTest extends Checks {
    public static void main(String[] args) {
        badCores();
        nothingWithoutRequest();
        loadExtendsTheLease();
        loadNeverShortensTheLease();
        loadLeasesFromTheWrittenTime();
        writeTakesTheLine();
        renewsTheSameVersion();
        suppliesAnotherVersion();
        suppliesAnotherVersionToAWriter();
        bouncesAndRecalls();
        bouncesWhileTheOwnersReplyFlies();
        bouncesOffItselfWithoutRecall();
        finish();
    }

    private static void badCores() {
        Run run = new Run(2, 1, 4, 1);
        for (int core : new int[] {LOWEST, -1, 2, 4, HIGHEST}) {
            run.due(run.x.deliverRequest(core), BAD);
        }
    }

    private static void nothingWithoutRequest() {
        Run run = new Run(2, 1, 4, 1);
        run.due(run.x.deliverRequest(0), NOTHING);
        run.given(run.x.issue(0, LOAD, 0, 0), SENT);
        run.due(run.x.deliverRequest(1), NOTHING);
        run.given(run.x.deliverRequest(0), SUPPLIED);
        run.due(run.x.deliverRequest(0), NOTHING);
        run.given(run.x.deliverReply(0), DONE);
        run.due(run.x.deliverRequest(0), NOTHING);
        run.given(run.x.issue(0, STORE, 0, 1), SENT);
        run.given(run.x.deliverRequest(0), RENEWED);
        run.due(run.x.deliverRequest(0), NOTHING);
    }

    private static void loadExtendsTheLease() {
        Run run = new Run(2, 2, 4, 1);
        run.given(run.x.advance(0, 9), DONE);
        run.given(run.x.issue(0, LOAD, 1, 0), SENT);
        run.due(run.x.deliverRequest(0), SUPPLIED, "line1: -1 0 13 0 0 -1", "pending0: 5 1 1 0 0 13");
    }

    private static void loadNeverShortensTheLease() {
        Run run = new Run(2, 1, 4, 1);
        run.given(run.x.advance(0, 9), DONE);
        run.load(0, 0);
        run.given(run.x.issue(1, LOAD, 0, 0), SENT);
        run.due(run.x.deliverRequest(1), SUPPLIED, "pending1: 5 1 0 0 0 13");
    }

    private static void loadLeasesFromTheWrittenTime() {
        Run run = new Run(3, 1, 4, 1);
        run.given(run.x.advance(0, 20), DONE);
        run.store(0, 0, 7);
        run.given(run.x.evict(0, 0), RETURNED);
        run.given(run.x.deliverWriteBack(0), DONE);
        run.given(run.x.issue(1, LOAD, 0, 0), SENT);
        run.due(run.x.deliverRequest(1), SUPPLIED, "line0: -1 20 24 7 7 -1", "pending1: 5 1 0 0 20 24");
        run.given(run.x.advance(2, 21), DONE);
        run.given(run.x.issue(2, LOAD, 0, 0), SENT);
        run.due(run.x.deliverRequest(2), SUPPLIED, "line0: -1 20 25 7 7 -1", "pending2: 5 1 0 0 20 25");
    }

    private static void writeTakesTheLine() {
        for (int kind : new int[] {STORE, ADD}) {
            Run run = new Run(2, 1, 4, 1);
            run.load(0, 0);
            run.given(run.x.advance(1, 50), DONE);
            run.given(run.x.issue(1, kind, 0, 7), SENT);
            run.due(run.x.deliverRequest(1), SUPPLIED, "line0: 1 0 4 0 0 -1", "pending1: 5 " + kind + " 0 7 0 4");
        }
    }

    private static void renewsTheSameVersion() {
        Run run = new Run(2, 1, 4, 1);
        run.load(0, 0);
        run.given(run.x.advance(0, 5), DONE);
        run.given(run.x.issue(0, LOAD, 0, 0), SENT);
        run.due(run.x.deliverRequest(0), RENEWED, "line0: -1 0 9 0 0 -1", "pending0: 4 1 0 0 0 9");
        run.given(run.x.deliverReply(0), DONE);
        run.given(run.x.issue(0, STORE, 0, 3), SENT);
        run.due(run.x.deliverRequest(0), RENEWED, "line0: 0 0 9 0 0 -1", "pending0: 4 2 0 3 0 9");
    }

    private static void suppliesAnotherVersion() {
        Run run = new Run(2, 1, 4, 1);
        run.load(0, 0);
        run.store(1, 0, 7);
        run.given(run.x.evict(1, 0), RETURNED);
        run.given(run.x.deliverWriteBack(0), DONE);
        run.given(run.x.advance(0, 30), DONE);
        run.given(run.x.issue(0, LOAD, 0, 0), SENT);
        run.due(run.x.deliverRequest(0), SUPPLIED, "line0: -1 5 34 7 7 -1", "pending0: 5 1 0 0 5 34");
        same(run.x.copy(0, 0, WRITTEN), 0);
    }

    private static void suppliesAnotherVersionToAWriter() {
        Run run = new Run(2, 1, 4, 1);
        run.load(0, 0);
        run.store(1, 0, 7);
        run.given(run.x.evict(1, 0), RETURNED);
        run.given(run.x.deliverWriteBack(0), DONE);
        run.given(run.x.issue(0, ADD, 0, 1), SENT);
        run.due(run.x.deliverRequest(0), SUPPLIED, "line0: 0 5 5 7 7 -1", "pending0: 5 3 0 1 5 5");
    }

    private static void bouncesAndRecalls() {
        Run run = new Run(4, 2, 4, 1);
        run.store(2, 1, 7);
        for (int kind = LOAD; kind <= ADD; kind++) {
            int core = kind == ADD ? 3 : kind - 1;
            run.given(run.x.issue(core, kind, 1, 0), SENT);
        }
        run.due(run.x.deliverRequest(0), BOUNCED, "recall2.1: true");
        run.due(run.x.deliverRequest(0), BOUNCED);
        run.due(run.x.deliverRequest(1), BOUNCED);
        run.given(run.x.deliverRecall(2, 1), YIELDED);
        run.due(run.x.deliverRecall(2, 1), NOTHING);
        run.due(run.x.deliverRequest(3), BOUNCED, "recall2.1: true");
        run.given(run.x.deliverWriteBack(1), DONE);
        run.due(run.x.deliverRequest(3), SUPPLIED, "line1: 3 1 1 7 7 -1", "pending3: 5 3 1 0 1 1");
        run.due(run.x.deliverRequest(0), BOUNCED, "recall3.1: true");
        same(run.x.recallFlying(2, 1), true);
    }

    private static void bouncesWhileTheOwnersReplyFlies() {
        Run run = new Run(2, 1, 4, 1);
        run.given(run.x.issue(0, STORE, 0, 7), SENT);
        run.given(run.x.issue(1, LOAD, 0, 0), SENT);
        run.given(run.x.deliverRequest(0), SUPPLIED);
        run.due(run.x.deliverRequest(1), BOUNCED, "recall0.0: true");
    }

    private static void bouncesOffItselfWithoutRecall() {
        Run run = new Run(2, 1, 4, 1);
        run.store(0, 0, 7);
        run.given(run.x.evict(0, 0), RETURNED);
        run.given(run.x.issue(0, LOAD, 0, 0), SENT);
        run.due(run.x.deliverRequest(0), BOUNCED);
        run.given(run.x.issue(1, LOAD, 0, 0), SENT);
        run.given(run.x.deliverRequest(1), BOUNCED);
        run.due(run.x.deliverRequest(0), BOUNCED);
        run.given(run.x.deliverWriteBack(0), DONE);
        run.due(run.x.deliverRequest(0), SUPPLIED, "line0: -1 1 5 7 7 -1", "pending0: 5 1 0 0 1 5");
    }
}
