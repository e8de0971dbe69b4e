import java.util.Arrays;
import java.util.Map;
import java.util.Random;

/** "What it is": what the document's first section says of the whole system, over long runs of calls. */
public final class WhatItIsTest extends Checks {
    private static final int RUNS = 60;
    private static final int CALLS = 500;

    private static final int ISSUE = 0;
    private static final int EVICT = 1;
    private static final int REQUEST = 3;
    private static final int REPLY = 4;
    private static final int RECALL = 5;
    private static final int WRITE_BACK = 6;

    private static int commitsSeen = 0;
    private static int writesPastALease = 0;
    private static int staleLoads = 0;

    public static void main(String[] args) {
        for (int seed = 0; seed < RUNS; seed++) {
            longRun(seed);
        }
        theRunsReachedWhatTheyCheck();
        recallAndLaterDelivery();
        messagesArePickedInAnyOrder();
        finish();
    }

    private static void longRun(int seed) {
        Random random = new Random(seed);
        int cores = 2 + seed % 3;
        int lines = 1 + seed % 4;
        TimestampCoherence x = new TimestampCoherence(cores, lines, 1 + seed % 16, 1 + seed % 4);
        for (int i = 0; i < CALLS; i++) {
            Map<String, String> before = told(x);
            int[] call = Calls.picked(random, cores, lines, 5);
            int answer = Calls.made(x, call);
            Map<String, String> after = told(x);
            copiesAreNeverInvalidated(call, before, after);
            messagesStayUntilPicked(call, before, after);
            committedOperationsAreRecorded(x, call, answer, before, after);
        }
        logicalOrderIsOneMemory(x, lines);
        logicalOrderKeepsEachCoresOrder(x, cores);
    }

    /** "copies are never invalidated": only its own core's evict takes a copy away. */
    private static void copiesAreNeverInvalidated(
            int[] call, Map<String, String> before, Map<String, String> after) {
        String evicted = call[0] == EVICT ? "copy" + call[1] + "." + call[2] : "none";
        for (String row : before.keySet()) {
            if (row.startsWith("copy") && !row.equals(evicted) && isPresent(before.get(row))) {
                same(row + " is present: " + isPresent(after.get(row)), row + " is present: true");
            }
        }
    }

    private static boolean isPresent(String copy) {
        return !copy.startsWith(ABSENT + " ");
    }

    /** "Requests, replies, recalls and write-backs are in flight until the caller picks them" */
    private static void messagesStayUntilPicked(
            int[] call, Map<String, String> before, Map<String, String> after) {
        for (String row : before.keySet()) {
            String was = before.get(row);
            String is = after.get(row);
            if (row.startsWith("pending") && !was.startsWith(IDLE + " ")) {
                int deliverer = was.startsWith(ASKING + " ") ? REQUEST : REPLY;
                if (!isCall(call, deliverer, row.substring("pending".length()))) {
                    same(row + " " + is, row + " " + was);
                }
            }
            if (row.startsWith("recall") && was.equals("true")) {
                if (!isCall(call, RECALL, row.substring("recall".length()))) {
                    same(row + " " + is, row + " true");
                }
            }
            if (row.startsWith("line") && !returning(was).equals("-1")) {
                if (!isCall(call, WRITE_BACK, row.substring("line".length()))) {
                    same(row + " " + returning(is), row + " " + returning(was));
                }
            }
        }
    }

    private static boolean isCall(int[] call, int method, String arguments) {
        String given = call.length == 3 ? call[1] + "." + call[2] : "" + call[1];
        return call[0] == method && given.equals(arguments);
    }

    private static String returning(String line) {
        return line.substring(line.lastIndexOf(' ') + 1);
    }

    /** "Every committed operation is recorded with its logical time" */
    private static void committedOperationsAreRecorded(
            TimestampCoherence x, int[] call, int answer, Map<String, String> before, Map<String, String> after) {
        boolean committed = answer == DONE && (call[0] == ISSUE || call[0] == REPLY);
        int entries = Integer.parseInt(before.get("commits"));
        same(x.commits(), committed ? entries + 1 : entries);
        if (committed) {
            commitsSeen++;
            same(x.log(entries, CORE), call[1]);
            same(x.log(entries, TIME), x.clock(call[1]));
            if (x.log(entries, KIND) != LOAD) {
                writesArePastEveryLease(x, entries, after);
            } else if (x.log(entries, VALUE) != x.line(x.log(entries, ADDRESS), LATEST)) {
                staleLoads++;
            }
        }
    }

    /** "Cores read lines under leases and write at a time past every lease on the line" */
    private static void writesArePastEveryLease(TimestampCoherence x, int entry, Map<String, String> after) {
        int address = x.log(entry, ADDRESS);
        for (int core = 0; after.containsKey("clock" + core); core++) {
            if (core != x.log(entry, CORE)) {
                int lease = x.copy(core, address, UNTIL);
                int promised = x.pending(core, ADDRESS) == address ? x.pending(core, UNTIL) : -1;
                same(lease < x.log(entry, TIME), true);
                same(promised < x.log(entry, TIME), true);
                writesPastALease += lease >= 0 || promised >= 0 ? 1 : 0;
            }
        }
    }

    /**
     * "stale copies stay readable, earlier in logical time": read in logical order, each LOAD tells, and
     * each ADD adds to, what the last write before it left.
     */
    private static void logicalOrderIsOneMemory(TimestampCoherence x, int lines) {
        int[] memory = new int[lines];
        for (int rank = 0; rank < x.commits(); rank++) {
            int entry = x.ordered(rank);
            int address = x.log(entry, ADDRESS);
            if (x.log(entry, KIND) == STORE) {
                memory[address] = x.log(entry, OPERAND);
            } else if (x.log(entry, KIND) == ADD) {
                memory[address] += x.log(entry, OPERAND);
            }
            same(x.log(entry, VALUE), memory[address]);
        }
        for (int address = 0; address < lines; address++) {
            same(x.line(address, LATEST), memory[address]);
        }
    }

    /** "can be read in commit order or in logical order": for one core the two are the same. */
    private static void logicalOrderKeepsEachCoresOrder(TimestampCoherence x, int cores) {
        int[] last = new int[cores];
        Arrays.fill(last, -1);
        for (int rank = 0; rank < x.commits(); rank++) {
            int entry = x.ordered(rank);
            int core = x.log(entry, CORE);
            same(last[core] < entry, true);
            last[core] = entry;
        }
    }

    private static void theRunsReachedWhatTheyCheck() {
        same(commitsSeen > 1000, true);
        same(writesPastALease > 100, true);
        same(staleLoads > 20, true);
    }

    /**
     * "A line owned by another core is recalled; the owner writes it back and keeps a leased copy, and the
     * request is delivered again later."
     */
    private static void recallAndLaterDelivery() {
        Run run = new Run(2, 1, 4, 1);
        run.store(0, 0, 7);
        run.given(run.x.issue(1, LOAD, 0, 0), SENT);
        run.due(run.x.deliverRequest(1), BOUNCED, "recall0.0: true");
        run.due(run.x.deliverRecall(0, 0), YIELDED, "copy0.0: 1 1 1 7", "line0: 0 0 0 0 7 1", "recall0.0: false");
        run.due(run.x.deliverWriteBack(0), DONE, "line0: -1 1 1 7 7 -1");
        run.due(run.x.deliverRequest(1), SUPPLIED, "line0: -1 1 5 7 7 -1", "pending1: 5 1 0 0 1 5");
        run.due(run.x.deliverReply(1), DONE, "clock1: 1", "copy1.0: 1 1 5 7", "pending1: 0 -1 -1 -1 -1 -1",
                "commits: 2", "log1: 1 1 0 0 7 1", "order: 0 1");
    }

    /** "in any order": four messages that do not touch each other's lines, in each of their 24 orders. */
    private static void messagesArePickedInAnyOrder() {
        Map<String, String> first = null;
        for (int order = 0; order < 256; order++) {
            int[] picks = {order & 3, order >> 2 & 3, order >> 4 & 3, order >> 6};
            if (Arrays.stream(picks).distinct().count() == 4) {
                Map<String, String> end = afterPicks(picks);
                first = first == null ? end : first;
                same(end, first);
            }
        }
    }

    private static Map<String, String> afterPicks(int[] picks) {
        TimestampCoherence x = busy().x;
        same(x.issue(3, LOAD, 5, 0), SENT);
        for (int pick : picks) {
            switch (pick) {
                case 0 -> same(x.deliverReply(2), DONE);
                case 1 -> same(x.deliverRecall(0, 0), YIELDED);
                case 2 -> same(x.deliverWriteBack(1), DONE);
                default -> same(x.deliverRequest(3), SUPPLIED);
            }
        }
        return told(x);
    }
}
