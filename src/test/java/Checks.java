import java.util.ArrayList;
import java.util.Arrays;
import java.util.LinkedHashMap;
import java.util.List;
import java.util.Map;

/**
 * What the tests share: the document's numbers, written out again so that a wrong constant in the
 * class is seen, and runs of calls of which every effect is checked.
 */
abstract class Checks {
    static final int BAD = -1;
    static final int WAITING = -2;
    static final int FULL = -3;
    static final int NO_ROOM = -4;
    static final int NOTHING = -5;
    static final int DONE = 1;
    static final int SENT = 2;
    static final int BOUNCED = 3;
    static final int RENEWED = 4;
    static final int SUPPLIED = 5;
    static final int DROPPED = 6;
    static final int RETURNED = 7;
    static final int YIELDED = 8;
    static final int IGNORED = 9;
    static final int IDLE = 0;
    static final int ASKING = 10;
    static final int LOAD = 1;
    static final int STORE = 2;
    static final int ADD = 3;
    static final int ABSENT = 0;
    static final int LEASED = 1;
    static final int OWNED = 2;
    static final int STATE = 0;
    static final int KIND = 1;
    static final int CORE = 2;
    static final int ADDRESS = 3;
    static final int OPERAND = 4;
    static final int VALUE = 5;
    static final int TIME = 6;
    static final int WRITTEN = 7;
    static final int UNTIL = 8;
    static final int OWNER = 9;
    static final int LATEST = 10;
    static final int RETURNING = 11;

    static final int LOWEST = Integer.MIN_VALUE;
    static final int HIGHEST = Integer.MAX_VALUE;

    private static int checked = 0;
    private static int wrong = 0;

    static void same(Object got, Object want) {
        checked++;
        if (!got.equals(want)) {
            wrong++;
            System.out.println(place() + ": got " + got + ", due is " + want);
        }
    }

    /** Ends a test's main method: with exit code 1 if a check failed, or if there was none. */
    static void finish() {
        System.out.println(checked + " checks, " + wrong + " wrong");
        if (wrong != 0 || checked == 0) {
            System.exit(1);
        }
    }

    private static String place() {
        for (StackTraceElement frame : new Throwable().getStackTrace()) {
            if (frame.getClassName().endsWith("Test")) {
                return frame.getFileName() + ":" + frame.getLineNumber();
            }
        }
        return "?";
    }

    /**
     * All that the getters tell, by name. The rows, with the fields in this order:
     * clockC; pendingC: STATE KIND ADDRESS OPERAND WRITTEN UNTIL; copyC.A: STATE WRITTEN UNTIL VALUE;
     * recallC.A; lineA: OWNER WRITTEN UNTIL VALUE LATEST RETURNING; commits;
     * logI: CORE KIND ADDRESS OPERAND VALUE TIME; order: the indices by rank.
     */
    static Map<String, String> told(TimestampCoherence x) {
        Map<String, String> rows = new LinkedHashMap<>();
        for (int c = 0; c < 4 && x.clock(c) != BAD; c++) {
            rows.put("clock" + c, "" + x.clock(c));
            rows.put("pending" + c, x.pending(c, STATE) + " " + x.pending(c, KIND) + " " + x.pending(c, ADDRESS)
                    + " " + x.pending(c, OPERAND) + " " + x.pending(c, WRITTEN) + " " + x.pending(c, UNTIL));
            for (int a = 0; a < 8 && x.line(a, WRITTEN) != BAD; a++) {
                rows.put("copy" + c + "." + a, x.copy(c, a, STATE) + " " + x.copy(c, a, WRITTEN)
                        + " " + x.copy(c, a, UNTIL) + " " + x.copy(c, a, VALUE));
                rows.put("recall" + c + "." + a, "" + x.recallFlying(c, a));
            }
        }
        for (int a = 0; a < 8 && x.line(a, WRITTEN) != BAD; a++) {
            rows.put("line" + a, x.line(a, OWNER) + " " + x.line(a, WRITTEN) + " " + x.line(a, UNTIL)
                    + " " + x.line(a, VALUE) + " " + x.line(a, LATEST) + " " + x.line(a, RETURNING));
        }
        rows.put("commits", "" + x.commits());
        StringBuilder order = new StringBuilder();
        for (int i = 0; i < x.commits(); i++) {
            rows.put("log" + i, x.log(i, CORE) + " " + x.log(i, KIND) + " " + x.log(i, ADDRESS)
                    + " " + x.log(i, OPERAND) + " " + x.log(i, VALUE) + " " + x.log(i, TIME));
            order.append(i == 0 ? "" : " ").append(x.ordered(i));
        }
        rows.put("order", order.toString());
        return rows;
    }

    /**
     * A state with a message of every kind in flight, in which a change that is not due is easily seen.
     * Core 0 owns line 0 (7, written at 1), and a recall for it flies. A write-back of line 1 flies (8,
     * written at 1). Core 1 asks to LOAD line 0; a reply flies to core 2, which is to STORE 5 in line 4.
     * Core 3 is idle, its clock 1; it has line 2 leased (until 4) and owns line 3 (9, written at 1).
     */
    static Run busy() {
        Run run = new Run(4, 8, 4, 4);
        run.store(0, 0, 7);
        run.store(0, 1, 8);
        run.load(3, 2);
        run.store(3, 3, 9);
        run.given(run.x.evict(0, 1), RETURNED);
        run.given(run.x.issue(1, LOAD, 0, 0), SENT);
        run.given(run.x.deliverRequest(1), BOUNCED);
        run.given(run.x.issue(2, STORE, 4, 5), SENT);
        run.given(run.x.deliverRequest(2), SUPPLIED);
        return run;
    }

    /** One object and what its getters told after the last call. */
    static final class Run {
        final TimestampCoherence x;
        private Map<String, String> before;

        Run(int cores, int lines, int lease, int ways) {
            x = new TimestampCoherence(cores, lines, lease, ways);
            before = told(x);
        }

        /** Checks the answer of the call just made, and that it changed these rows and nothing else. */
        void due(int got, int want, String... changes) {
            Map<String, String> after = told(x);
            List<String> seen = new ArrayList<>();
            for (Map.Entry<String, String> row : after.entrySet()) {
                if (!row.getValue().equals(before.get(row.getKey()))) {
                    seen.add(row.getKey() + ": " + row.getValue());
                }
            }
            before = after;
            List<String> wanted = new ArrayList<>(Arrays.asList(changes));
            seen.sort(null);
            wanted.sort(null);
            same(got, want);
            same(seen, wanted);
        }

        /** Checks the answer of a call that only leads up to what a test is about. */
        void given(int got, int want) {
            same(got, want);
            before = told(x);
        }

        void load(int core, int address) {
            perform(core, LOAD, address, 0);
        }

        void store(int core, int address, int operand) {
            perform(core, STORE, address, operand);
        }

        private void perform(int core, int kind, int address, int operand) {
            same(x.issue(core, kind, address, operand), SENT);
            int answer = x.deliverRequest(core);
            same(answer == RENEWED || answer == SUPPLIED, true);
            given(x.deliverReply(core), DONE);
        }

        /** The core gives up a line that it owns, and the home gets the write-back. */
        void giveBack(int core, int address) {
            given(x.evict(core, address), RETURNED);
            given(x.deliverWriteBack(address), DONE);
        }

        /** Moves a clock that is 0 to the given time, in as many calls as that takes. */
        void advanceTo(int core, int time) {
            for (int left = time; left > 0; left -= 64) {
                given(x.advance(core, Math.min(left, 64)), DONE);
            }
        }

        /** Adds entries by hits of a core that owns the line, until the log has the given number. */
        void fillLog(int core, int address, int entries) {
            for (int i = x.commits(); i < entries; i++) {
                same(x.issue(core, LOAD, address, 0), DONE);
            }
            given(x.commits(), entries);
        }
    }
}
