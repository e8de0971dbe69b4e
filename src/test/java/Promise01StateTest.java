import java.util.HashSet;
import java.util.Random;
import java.util.Set;

/** Promise 1: versions, the home and the messages in flight. */
public final class Promise01StateTest extends Checks {
    public static void main(String[] args) {
        versionOfTheStartIsZero();
        everyWriteMakesAVersion();
        loadsMakeNoVersion();
        writtenTimesOfALineAreDistinct();
        linesMayShareAWrittenTime();
        holdersKeepTheirVersion();
        messagesKeepTheirVersion();
        homeTimesStayWhileOwned();
        oneRecallForAPair();
        recallsForSeveralPairs();
        oneWriteBackForALine();
        nothingIsDeliveredUnpicked();
        finish();
    }

    /** "The version written at 0 has the value 0." */
    private static void versionOfTheStartIsZero() {
        Run run = new Run(3, 2, 4, 2);
        run.load(0, 0);
        run.store(1, 0, 7);
        same(run.x.copy(0, 0, VALUE), 0);
        same(run.x.line(0, VALUE), 0);
        run.given(run.x.issue(0, LOAD, 0, 0), DONE);
        same(run.x.log(2, VALUE), 0);
        run.given(run.x.issue(2, ADD, 1, -3), SENT);
        run.given(run.x.deliverRequest(2), SUPPLIED);
        run.given(run.x.deliverReply(2), DONE);
        same(run.x.log(3, VALUE), -3);
    }

    /** "Every committed STORE or ADD makes a new version of its line ... with that operation's VALUE." */
    private static void everyWriteMakesAVersion() {
        Run run = new Run(2, 1, 4, 1);
        run.store(0, 0, 7);
        run.due(run.x.issue(0, STORE, 0, 7), DONE, "clock0: 2", "copy0.0: 2 2 2 7",
                "commits: 2", "log1: 0 2 0 7 7 2", "order: 0 1");
        run.due(run.x.issue(0, ADD, 0, 0), DONE, "clock0: 3", "copy0.0: 2 3 3 7",
                "commits: 3", "log2: 0 3 0 0 7 3", "order: 0 1 2");
    }

    /** The same sentence: only a STORE or ADD does. */
    private static void loadsMakeNoVersion() {
        Run run = new Run(2, 1, 4, 1);
        run.store(0, 0, 7);
        run.given(run.x.advance(0, 9), DONE);
        run.given(run.x.issue(0, LOAD, 0, 0), DONE);
        same(run.x.copy(0, 0, WRITTEN), 1);
        run.giveBack(0, 0);
        same(run.x.line(0, WRITTEN), 1);
        same(run.x.line(0, VALUE), 7);
    }

    /** "No two versions of a line have the same written time." */
    private static void writtenTimesOfALineAreDistinct() {
        int made = 0;
        for (int seed = 0; seed < 40; seed++) {
            Random random = new Random(seed);
            TimestampCoherence x = new TimestampCoherence(4, 2, 1 + seed % 16, 2);
            for (int i = 0; i < 600; i++) {
                Calls.made(x, Calls.picked(random, 4, 2, 5));
            }
            Set<String> versions = new HashSet<>(Set.of("0 at 0", "1 at 0"));
            for (int i = 0; i < x.commits(); i++) {
                if (x.log(i, KIND) != LOAD) {
                    made++;
                    same(versions.add(x.log(i, ADDRESS) + " at " + x.log(i, TIME)), true);
                }
            }
        }
        same(made > 500, true);
    }

    /** The same sentence speaks of one line: two lines may have versions of one time. */
    private static void linesMayShareAWrittenTime() {
        Run run = new Run(2, 3, 4, 2);
        run.store(0, 0, 7);
        run.store(1, 1, 8);
        same(run.x.copy(0, 0, WRITTEN), 1);
        same(run.x.copy(1, 1, WRITTEN), 1);
        same(run.x.copy(0, 0, VALUE), 7);
        same(run.x.copy(1, 1, VALUE), 8);
        run.giveBack(0, 0);
        run.giveBack(1, 1);
        same(run.x.line(0, VALUE), 7);
        same(run.x.line(1, VALUE), 8);
    }

    /** "Wherever a copy, the home ... has a written time, it holds that version" */
    private static void holdersKeepTheirVersion() {
        Run run = new Run(4, 1, 4, 1);
        run.load(0, 0);
        run.store(1, 0, 7);
        run.given(run.x.issue(2, STORE, 0, 8), SENT);
        run.given(run.x.deliverRequest(2), BOUNCED);
        run.given(run.x.deliverRecall(1, 0), YIELDED);
        run.given(run.x.deliverWriteBack(0), DONE);
        run.given(run.x.deliverRequest(2), SUPPLIED);
        run.given(run.x.deliverReply(2), DONE);
        same(told(run.x).get("copy0.0"), "1 0 4 0");
        same(told(run.x).get("copy1.0"), "1 5 5 7");
        same(told(run.x).get("copy2.0"), "2 6 6 8");
        same(told(run.x).get("line0"), "2 5 5 7 8 -1");
    }

    /** "... or a message has a written time, it holds that version, and its value is that version's value." */
    private static void messagesKeepTheirVersion() {
        Run run = new Run(3, 1, 4, 1);
        run.given(run.x.issue(0, LOAD, 0, 0), SENT);
        run.given(run.x.deliverRequest(0), SUPPLIED);
        run.store(1, 0, 7);
        run.given(run.x.evict(1, 0), RETURNED);
        run.given(run.x.deliverReply(0), DONE);
        same(told(run.x).get("copy0.0"), "1 0 4 0");
        run.due(run.x.deliverWriteBack(0), DONE, "line0: -1 5 5 7 7 -1");
        run.given(run.x.issue(2, LOAD, 0, 0), SENT);
        run.given(run.x.deliverRequest(2), SUPPLIED);
        run.store(1, 0, 8);
        run.given(run.x.deliverReply(2), DONE);
        same(told(run.x).get("copy2.0"), "1 5 9 7");
    }

    /** "While a line has an owner, the home's two times stay as they are until a write-back is delivered." */
    private static void homeTimesStayWhileOwned() {
        Run run = new Run(2, 1, 4, 1);
        run.store(0, 0, 7);
        run.giveBack(0, 0);
        run.given(run.x.issue(1, STORE, 0, 8), SENT);
        run.due(run.x.deliverRequest(1), SUPPLIED, "line0: 1 1 1 7 7 -1", "pending1: 5 2 0 8 1 1");
        run.due(run.x.deliverReply(1), DONE, "clock1: 2", "copy1.0: 2 2 2 8", "line0: 1 1 1 7 8 -1",
                "pending1: 0 -1 -1 -1 -1 -1", "commits: 2", "log1: 1 2 0 8 8 2", "order: 0 1");
        run.due(run.x.issue(1, ADD, 0, 1), DONE, "clock1: 3", "copy1.0: 2 3 3 9", "line0: 1 1 1 7 9 -1",
                "commits: 3", "log2: 1 3 0 1 9 3", "order: 0 1 2");
        run.given(run.x.issue(0, LOAD, 0, 0), SENT);
        run.due(run.x.deliverRequest(0), BOUNCED, "recall1.0: true");
        run.due(run.x.deliverRecall(1, 0), YIELDED, "copy1.0: 1 3 3 9", "line0: 1 1 1 7 9 3", "recall1.0: false");
        run.due(run.x.deliverWriteBack(0), DONE, "line0: -1 3 3 9 9 -1");
    }

    /** "recall: for a pair (core, line); at most one for each pair" */
    private static void oneRecallForAPair() {
        Run run = new Run(4, 1, 4, 1);
        run.store(0, 0, 7);
        for (int core = 1; core < 4; core++) {
            run.given(run.x.issue(core, LOAD, 0, 0), SENT);
            run.given(run.x.deliverRequest(core), BOUNCED);
            run.due(run.x.deliverRequest(core), BOUNCED);
        }
        run.given(run.x.deliverRecall(0, 0), YIELDED);
        run.due(run.x.deliverRecall(0, 0), NOTHING);
    }

    /** The same: each pair has its own. */
    private static void recallsForSeveralPairs() {
        Run run = new Run(4, 2, 4, 2);
        run.store(0, 0, 7);
        run.store(0, 1, 8);
        run.given(run.x.issue(1, LOAD, 0, 0), SENT);
        run.given(run.x.issue(2, LOAD, 1, 0), SENT);
        run.due(run.x.deliverRequest(1), BOUNCED, "recall0.0: true");
        run.due(run.x.deliverRequest(2), BOUNCED, "recall0.1: true");
        run.giveBack(0, 1);
        run.store(3, 1, 9);
        run.due(run.x.deliverRequest(2), BOUNCED, "recall3.1: true");
        run.due(run.x.deliverRecall(0, 1), IGNORED, "recall0.1: false");
        run.due(run.x.deliverRecall(0, 0), YIELDED, "copy0.0: 1 1 1 7", "line0: 0 0 0 0 7 1", "recall0.0: false");
        run.due(run.x.deliverRecall(3, 1), YIELDED, "copy3.1: 1 2 2 9", "line1: 3 1 1 8 9 2", "recall3.1: false");
    }

    /** "write-back: ... There is never more than one for a line." */
    private static void oneWriteBackForALine() {
        Run run = new Run(2, 1, 4, 1);
        run.store(0, 0, 7);
        run.given(run.x.issue(1, LOAD, 0, 0), SENT);
        run.given(run.x.deliverRequest(1), BOUNCED);
        run.given(run.x.deliverRecall(0, 0), YIELDED);
        run.given(run.x.deliverRequest(1), BOUNCED);
        run.due(run.x.evict(0, 0), DROPPED, "copy0.0: 0 -1 -1 -1");
        run.due(run.x.deliverRecall(0, 0), IGNORED, "recall0.0: false");
        run.due(run.x.deliverWriteBack(0), DONE, "line0: -1 1 1 7 7 -1");
        run.due(run.x.deliverWriteBack(0), NOTHING);
    }

    /** "none is delivered until the caller picks it" */
    private static void nothingIsDeliveredUnpicked() {
        Run run = busy();
        for (int i = 1; i <= 5; i++) {
            run.due(run.x.advance(3, 64), DONE, "clock3: " + (1 + 64 * i));
        }
    }
}
