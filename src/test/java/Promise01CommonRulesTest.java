/** Promise 1: the constructor, the start, versions and the rule of commits. */
public final class Promise01CommonRulesTest extends Checks {
    public static void main(String[] args) {
        clampsCores();
        clampsLines();
        clampsLease();
        clampsWays();
        startsEmpty();
        objectsShareNothing();
        loadOnLeasedCopy();
        loadOfVersionAheadOfClock();
        loadOnOwnedCopy();
        storeGoesPastUntil();
        addUsesTheCopysVersion();
        addWrapsAround();
        homeKeepsItsVersionWhileOwned();
        staleCopiesStayReadable();
        copiesNeverExceedWays();
        finish();
    }

    private static void clampsCores() {
        int[][] givenAndMeant = {{LOWEST, 2}, {-1, 2}, {0, 2}, {1, 2}, {2, 2}, {3, 3}, {4, 4}, {5, 4}, {HIGHEST, 4}};
        for (int[] pair : givenAndMeant) {
            TimestampCoherence x = new TimestampCoherence(pair[0], 1, 1, 1);
            same(x.clock(pair[1] - 1), 0);
            same(x.clock(pair[1]), BAD);
        }
    }

    private static void clampsLines() {
        int[][] givenAndMeant = {{LOWEST, 1}, {-1, 1}, {0, 1}, {1, 1}, {2, 2}, {7, 7}, {8, 8}, {9, 8}, {HIGHEST, 8}};
        for (int[] pair : givenAndMeant) {
            TimestampCoherence x = new TimestampCoherence(2, pair[0], 1, 1);
            same(x.line(pair[1] - 1, UNTIL), 0);
            same(x.line(pair[1], UNTIL), BAD);
        }
    }

    private static void clampsLease() {
        int[][] givenAndMeant = {
            {LOWEST, 1}, {-1, 1}, {0, 1}, {1, 1}, {2, 2}, {15, 15}, {16, 16}, {17, 16}, {HIGHEST, 16}};
        for (int[] pair : givenAndMeant) {
            Run run = new Run(2, 1, pair[0], 1);
            run.load(0, 0);
            same(run.x.line(0, UNTIL), pair[1]);
        }
    }

    private static void clampsWays() {
        int[][] givenAndMeant = {{LOWEST, 1}, {-1, 1}, {0, 1}, {1, 1}, {2, 2}, {3, 3}, {4, 4}, {5, 4}, {HIGHEST, 4}};
        for (int[] pair : givenAndMeant) {
            Run run = new Run(2, 8, 1, pair[0]);
            for (int address = 0; address < pair[1]; address++) {
                run.load(0, address);
            }
            run.due(run.x.issue(0, LOAD, pair[1], 0), NO_ROOM);
        }
    }

    private static void startsEmpty() {
        TimestampCoherence x = new TimestampCoherence(4, 8, 16, 4);
        for (int core = 0; core < 4; core++) {
            same(x.clock(core), 0);
            same(x.pending(core, STATE), IDLE);
            same(x.deliverRequest(core), NOTHING);
            same(x.deliverReply(core), NOTHING);
            for (int address = 0; address < 8; address++) {
                same(x.copy(core, address, STATE), ABSENT);
                same(x.recallFlying(core, address), false);
            }
        }
        for (int address = 0; address < 8; address++) {
            same(x.line(address, OWNER), -1);
            same(x.line(address, WRITTEN), 0);
            same(x.line(address, UNTIL), 0);
            same(x.line(address, VALUE), 0);
            same(x.line(address, LATEST), 0);
            same(x.line(address, RETURNING), -1);
            same(x.deliverWriteBack(address), NOTHING);
        }
        same(x.commits(), 0);
    }

    private static void objectsShareNothing() {
        Run one = new Run(2, 2, 4, 2);
        Run other = new Run(2, 2, 4, 2);
        one.store(0, 0, 7);
        other.due(other.x.commits(), 0);
        same(other.x.line(0, OWNER), -1);
    }

    private static void loadOnLeasedCopy() {
        Run run = new Run(2, 1, 10, 1);
        run.load(0, 0);
        run.given(run.x.advance(0, 5), DONE);
        run.due(run.x.issue(0, LOAD, 0, 9), DONE, "commits: 2", "log1: 0 1 0 0 0 5", "order: 0 1");
    }

    private static void loadOfVersionAheadOfClock() {
        Run run = new Run(2, 1, 1, 1);
        run.store(1, 0, 40);
        run.given(run.x.issue(1, ADD, 0, 2), DONE);
        run.given(run.x.evict(1, 0), RETURNED);
        run.given(run.x.deliverWriteBack(0), DONE);
        run.given(run.x.issue(0, LOAD, 0, 0), SENT);
        run.due(run.x.deliverRequest(0), SUPPLIED, "line0: -1 2 3 42 42 -1", "pending0: 5 1 0 0 2 3");
        run.due(run.x.deliverReply(0), DONE, "clock0: 2", "copy0.0: 1 2 3 42", "pending0: 0 -1 -1 -1 -1 -1",
                "commits: 3", "log2: 0 1 0 0 42 2", "order: 0 1 2");
    }

    private static void loadOnOwnedCopy() {
        Run run = new Run(2, 1, 4, 1);
        run.store(0, 0, 7);
        run.due(run.x.issue(0, LOAD, 0, 3), DONE, "commits: 2", "log1: 0 1 0 0 7 1", "order: 0 1");
        run.given(run.x.advance(0, 20), DONE);
        run.due(run.x.issue(0, LOAD, 0, 3), DONE, "copy0.0: 2 1 21 7",
                "commits: 3", "log2: 0 1 0 0 7 21", "order: 0 1 2");
        run.due(run.x.issue(0, STORE, 0, 8), DONE, "clock0: 22", "copy0.0: 2 22 22 8", "line0: 0 0 0 0 8 -1",
                "commits: 4", "log3: 0 2 0 8 8 22", "order: 0 1 2 3");
    }

    private static void storeGoesPastUntil() {
        int[][] clockAndTime = {{0, 5}, {4, 5}, {5, 5}, {6, 6}, {30, 30}};
        for (int[] pair : clockAndTime) {
            Run run = new Run(2, 1, 4, 1);
            run.load(1, 0);
            run.advanceTo(0, pair[0]);
            run.store(0, 0, -3);
            int time = pair[1];
            same(run.x.log(1, TIME), time);
            same(run.x.log(1, VALUE), -3);
            same(run.x.clock(0), time);
            same(run.x.copy(0, 0, STATE), OWNED);
            same(run.x.copy(0, 0, WRITTEN), time);
            same(run.x.copy(0, 0, UNTIL), time);
        }
    }

    private static void addUsesTheCopysVersion() {
        Run run = new Run(2, 2, 4, 2);
        run.store(0, 0, 7);
        run.store(0, 1, 100);
        run.due(run.x.issue(0, ADD, 0, -10), DONE, "clock0: 2", "copy0.0: 2 2 2 -3", "line0: 0 0 0 0 -3 -1",
                "commits: 3", "log2: 0 3 0 -10 -3 2", "order: 0 1 2");
    }

    private static void addWrapsAround() {
        Run run = new Run(2, 1, 4, 1);
        run.store(0, 0, HIGHEST);
        run.given(run.x.issue(0, ADD, 0, 1), DONE);
        same(run.x.log(1, VALUE), LOWEST);
        run.given(run.x.issue(0, ADD, 0, -1), DONE);
        same(run.x.log(2, VALUE), HIGHEST);
        run.given(run.x.issue(0, ADD, 0, HIGHEST), DONE);
        same(run.x.copy(0, 0, VALUE), -2);
        run.given(run.x.issue(0, ADD, 0, LOWEST), DONE);
        same(run.x.line(0, LATEST), LOWEST - 2);
    }

    private static void homeKeepsItsVersionWhileOwned() {
        Run run = new Run(2, 1, 4, 1);
        run.store(0, 0, 7);
        run.given(run.x.evict(0, 0), RETURNED);
        run.given(run.x.deliverWriteBack(0), DONE);
        run.store(1, 0, 8);
        run.due(run.x.issue(1, STORE, 0, 9), DONE, "clock1: 3", "copy1.0: 2 3 3 9", "line0: 1 1 1 7 9 -1",
                "commits: 3", "log2: 1 2 0 9 9 3", "order: 0 1 2");
    }

    private static void staleCopiesStayReadable() {
        Run run = new Run(3, 1, 4, 1);
        run.load(0, 0);
        run.store(1, 0, 7);
        run.given(run.x.issue(1, STORE, 0, 8), DONE);
        same(run.x.log(1, TIME), 5);
        same(run.x.log(2, TIME), 6);
        run.due(run.x.issue(0, LOAD, 0, 0), DONE, "commits: 4", "log3: 0 1 0 0 0 0", "order: 0 3 1 2");
    }

    private static void copiesNeverExceedWays() {
        Run run = new Run(2, 4, 4, 2);
        run.load(0, 0);
        run.given(run.x.issue(0, STORE, 1, 5), SENT);
        run.due(run.x.issue(0, LOAD, 2, 0), WAITING);
        run.given(run.x.deliverRequest(0), SUPPLIED);
        run.given(run.x.deliverReply(0), DONE);
        run.due(run.x.issue(0, LOAD, 2, 0), NO_ROOM);
        run.load(1, 2);
        same(run.x.copy(1, 2, STATE), LEASED);
    }
}
