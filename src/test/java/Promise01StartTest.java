import java.util.Random;

/** Promise 1: the arguments, the start and the names. */
public final class Promise01StartTest extends Checks {
    public static void main(String[] args) {
        clampsCores();
        clampsLines();
        clampsLease();
        clampsWays();
        clampedArgumentsMeanTheBounds();
        startsEmpty();
        startsWithoutMessages();
        objectsShareNothing();
        firstAndLastNames();
        eachLineHoldsItsOwnInt();
        copiesNeverExceedWays();
        finish();
    }

    /** "cores is clamped into 2..4" */
    private static void clampsCores() {
        int[][] givenAndMeant = {{LOWEST, 2}, {-1, 2}, {0, 2}, {1, 2}, {2, 2}, {3, 3}, {4, 4}, {5, 4}, {HIGHEST, 4}};
        for (int[] pair : givenAndMeant) {
            TimestampCoherence x = new TimestampCoherence(pair[0], 1, 1, 1);
            same(x.clock(pair[1] - 1), 0);
            same(x.clock(pair[1]), BAD);
        }
    }

    /** "lines into 1..8" */
    private static void clampsLines() {
        int[][] givenAndMeant = {{LOWEST, 1}, {-1, 1}, {0, 1}, {1, 1}, {2, 2}, {7, 7}, {8, 8}, {9, 8}, {HIGHEST, 8}};
        for (int[] pair : givenAndMeant) {
            TimestampCoherence x = new TimestampCoherence(2, pair[0], 1, 1);
            same(x.line(pair[1] - 1, UNTIL), 0);
            same(x.line(pair[1], UNTIL), BAD);
        }
    }

    /** "lease into 1..16" */
    private static void clampsLease() {
        int[][] givenAndMeant = {
            {LOWEST, 1}, {-1, 1}, {0, 1}, {1, 1}, {2, 2}, {15, 15}, {16, 16}, {17, 16}, {HIGHEST, 16}};
        for (int[] pair : givenAndMeant) {
            Run run = new Run(2, 1, pair[0], 1);
            run.load(0, 0);
            same(run.x.line(0, UNTIL), pair[1]);
        }
    }

    /** "ways into 1..4" */
    private static void clampsWays() {
        int[][] givenAndMeant = {{LOWEST, 1}, {-1, 1}, {0, 1}, {1, 1}, {2, 2}, {3, 3}, {4, 4}, {5, 4}, {HIGHEST, 4}};
        for (int[] pair : givenAndMeant) {
            Run run = new Run(2, 8, 1, pair[0]);
            for (int address = 0; address < pair[1]; address++) {
                run.load(0, address);
            }
            run.due(run.x.issue(0, LOAD, pair[1], 0), NO_ROOM);
        }
    }

    /** "a value below the least becomes the least, a value above the greatest becomes the greatest" */
    private static void clampedArgumentsMeanTheBounds() {
        int[][] givenAndMeant = {
            {LOWEST, LOWEST, LOWEST, LOWEST, 2, 1, 1, 1},
            {1, 0, 0, 0, 2, 1, 1, 1},
            {5, 9, 17, 5, 4, 8, 16, 4},
            {HIGHEST, HIGHEST, HIGHEST, HIGHEST, 4, 8, 16, 4},
            {5, 0, 17, 0, 4, 1, 16, 1},
            {1, 9, 0, 5, 2, 8, 1, 4},
        };
        for (int[] row : givenAndMeant) {
            TimestampCoherence given = new TimestampCoherence(row[0], row[1], row[2], row[3]);
            TimestampCoherence meant = new TimestampCoherence(row[4], row[5], row[6], row[7]);
            Random random = new Random(1);
            for (int i = 0; i < 400; i++) {
                int[] call = Calls.picked(random, row[4], row[5], 5);
                same(Calls.made(given, call), Calls.made(meant, call));
            }
            same(told(given), told(meant));
        }
    }

    /** "Every clock is 0, nothing is pending, there are no copies, ... no owners, all home times are 0" */
    private static void startsEmpty() {
        for (int cores = 2; cores <= 4; cores++) {
            for (int lines = 1; lines <= 8; lines++) {
                TimestampCoherence x = new TimestampCoherence(cores, lines, 16, 4);
                for (int core = 0; core < cores; core++) {
                    same(x.clock(core), 0);
                    same(x.pending(core, STATE), IDLE);
                    for (int address = 0; address < lines; address++) {
                        same(x.copy(core, address, STATE), ABSENT);
                    }
                }
                for (int address = 0; address < lines; address++) {
                    same(x.line(address, OWNER), -1);
                    same(x.line(address, WRITTEN), 0);
                    same(x.line(address, UNTIL), 0);
                    same(x.line(address, VALUE), 0);
                    same(x.line(address, LATEST), 0);
                }
                same(x.commits(), 0);
            }
        }
    }

    /** "no messages": none is told, and none can be delivered. */
    private static void startsWithoutMessages() {
        Run run = new Run(4, 8, 16, 4);
        for (int core = 0; core < 4; core++) {
            run.due(run.x.deliverRequest(core), NOTHING);
            run.due(run.x.deliverReply(core), NOTHING);
            for (int address = 0; address < 8; address++) {
                same(run.x.recallFlying(core, address), false);
                run.due(run.x.deliverRecall(core, address), NOTHING);
            }
        }
        for (int address = 0; address < 8; address++) {
            same(run.x.line(address, RETURNING), -1);
            run.due(run.x.deliverWriteBack(address), NOTHING);
        }
    }

    private static void objectsShareNothing() {
        Run one = new Run(2, 2, 4, 2);
        Run other = new Run(2, 2, 4, 2);
        one.store(0, 0, 7);
        other.due(other.x.commits(), 0);
        same(other.x.line(0, OWNER), -1);
    }

    /** "Cores are 0..cores-1, lines (addresses) are 0..lines-1." The outermost of them do all that any does. */
    private static void firstAndLastNames() {
        for (int cores = 2; cores <= 4; cores++) {
            for (int lines = 1; lines <= 8; lines++) {
                wholeRound(cores, lines, 0, cores - 1, 0);
                wholeRound(cores, lines, cores - 1, 0, lines - 1);
            }
        }
    }

    private static void wholeRound(int cores, int lines, int owner, int reader, int address) {
        Run run = new Run(cores, lines, 4, 1);
        run.given(run.x.advance(owner, 2), DONE);
        run.store(owner, address, 7);
        run.given(run.x.issue(reader, LOAD, address, 0), SENT);
        run.given(run.x.deliverRequest(reader), BOUNCED);
        run.due(run.x.deliverRecall(owner, address), YIELDED,
                "copy" + owner + "." + address + ": 1 2 2 7", "recall" + owner + "." + address + ": false",
                "line" + address + ": " + owner + " 0 0 0 7 2");
        run.due(run.x.deliverWriteBack(address), DONE, "line" + address + ": -1 2 2 7 7 -1");
        run.given(run.x.deliverRequest(reader), SUPPLIED);
        run.due(run.x.deliverReply(reader), DONE, "clock" + reader + ": 2",
                "copy" + reader + "." + address + ": 1 2 6 7", "pending" + reader + ": 0 -1 -1 -1 -1 -1",
                "commits: 2", "log1: " + reader + " 1 " + address + " 0 7 2", "order: 0 1");
        run.due(run.x.evict(owner, address), DROPPED, "copy" + owner + "." + address + ": 0 -1 -1 -1");
    }

    /** "A line holds one int." */
    private static void eachLineHoldsItsOwnInt() {
        int[] values = {LOWEST, -1000, -1, 0, 1, 1000, HIGHEST - 1, HIGHEST};
        Run run = new Run(2, 8, 4, 4);
        for (int address = 0; address < 8; address++) {
            run.store(address % 2, address, values[address]);
        }
        for (int address = 0; address < 8; address++) {
            same(run.x.copy(address % 2, address, VALUE), values[address]);
            run.giveBack(address % 2, address);
            same(run.x.line(address, VALUE), values[address]);
        }
    }

    /** "A core has at most ways copies at any moment." */
    private static void copiesNeverExceedWays() {
        for (int ways = 1; ways <= 4; ways++) {
            Run run = new Run(2, 8, 4, ways);
            for (int address = 0; address < ways - 1; address++) {
                run.load(0, address);
            }
            run.given(run.x.issue(0, STORE, 7, 5), SENT);
            run.due(run.x.issue(0, LOAD, 6, 0), WAITING);
            run.given(run.x.deliverRequest(0), SUPPLIED);
            run.due(run.x.issue(0, LOAD, 6, 0), WAITING);
            run.given(run.x.deliverReply(0), DONE);
            for (int address = ways - 1; address < 7; address++) {
                run.due(run.x.issue(0, LOAD, address, 0), NO_ROOM);
            }
            run.load(1, 6);
        }
    }
}
