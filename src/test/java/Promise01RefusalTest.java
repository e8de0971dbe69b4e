import java.util.ArrayList;
import java.util.List;
import java.util.Random;

/** Promise 1: refusals, the bad names, and the getters. */
public final class Promise01RefusalTest extends Checks {
    private static final int[] FAR = {LOWEST, LOWEST + 1, -(1 << 29), 1 << 28, 1 << 29, HIGHEST};

    public static void main(String[] args) {
        badCores();
        badAddresses();
        badCoreAndBadAddress();
        refusedCallsChangeNothing();
        gettersChangeNothing();
        finish();
    }

    /** "'Bad core' means outside 0..cores-1" */
    private static void badCores() {
        for (int cores = 2; cores <= 4; cores++) {
            Run run = new Run(cores, 8, 4, 4);
            run.store(0, 0, 7);
            run.given(run.x.issue(cores - 1, LOAD, 0, 0), SENT);
            run.given(run.x.deliverRequest(cores - 1), BOUNCED);
            for (int core : with(FAR, -1, cores, 4)) {
                refusesCore(run, core);
            }
        }
    }

    private static void refusesCore(Run run, int core) {
        TimestampCoherence x = run.x;
        run.due(x.issue(core, LOAD, 0, 0), BAD);
        run.due(x.evict(core, 0), BAD);
        run.due(x.advance(core, 1), BAD);
        run.due(x.deliverRequest(core), BAD);
        run.due(x.deliverReply(core), BAD);
        run.due(x.deliverRecall(core, 0), BAD);
        run.due(x.clock(core), BAD);
        run.due(x.pending(core, STATE), BAD);
        run.due(x.copy(core, 0, STATE), BAD);
        same(x.recallFlying(core, 0), false);
    }

    /** "'bad address' means outside 0..lines-1" */
    private static void badAddresses() {
        for (int lines = 1; lines <= 8; lines++) {
            Run run = new Run(4, lines, 4, 4);
            run.store(0, lines - 1, 7);
            run.given(run.x.issue(1, LOAD, lines - 1, 0), SENT);
            run.given(run.x.deliverRequest(1), BOUNCED);
            for (int address : with(FAR, -1, lines, 8)) {
                refusesAddress(run, address);
            }
        }
    }

    private static void refusesAddress(Run run, int address) {
        TimestampCoherence x = run.x;
        run.due(x.issue(0, LOAD, address, 0), BAD);
        run.due(x.evict(0, address), BAD);
        run.due(x.deliverRecall(0, address), BAD);
        run.due(x.deliverWriteBack(address), BAD);
        run.due(x.copy(0, address, STATE), BAD);
        run.due(x.line(address, OWNER), BAD);
        same(x.recallFlying(0, address), false);
    }

    /** Core and address are each looked at: two bad ones must not make up a good pair. */
    private static void badCoreAndBadAddress() {
        Run run = busy();
        int[][] pairs = {{-1, 8}, {1, -8}, {-1, -1}, {4, 8}, {4, -32}, {0, 8}, {LOWEST, HIGHEST}, {1 << 29, 0}};
        for (int[] pair : pairs) {
            run.due(run.x.issue(pair[0], LOAD, pair[1], 0), BAD);
            run.due(run.x.evict(pair[0], pair[1]), BAD);
            run.due(run.x.deliverRecall(pair[0], pair[1]), BAD);
            run.due(run.x.copy(pair[0], pair[1], STATE), BAD);
            same(run.x.recallFlying(pair[0], pair[1]), false);
        }
    }

    /**
     * "a call so refused changes nothing": a run without its refused calls ends in the same state, also
     * where the getters do not see it.
     */
    private static void refusedCallsChangeNothing() {
        for (int seed = 0; seed < 60; seed++) {
            Random random = new Random(seed);
            int cores = 2 + seed % 3;
            int lines = 1 + seed % 8;
            TimestampCoherence whole = new TimestampCoherence(cores, lines, 4, 1 + seed % 4);
            List<int[]> accepted = new ArrayList<>();
            List<Integer> answers = new ArrayList<>();
            for (int i = 0; i < 500; i++) {
                int[] call = Calls.picked(random, cores, lines, seed % 2 == 0 ? 4 : 66);
                int answer = Calls.made(whole, call);
                if (answer > 0) {
                    accepted.add(call);
                    answers.add(answer);
                }
            }
            TimestampCoherence bare = new TimestampCoherence(cores, lines, 4, 1 + seed % 4);
            for (int i = 0; i < accepted.size(); i++) {
                same(Calls.made(bare, accepted.get(i)), answers.get(i));
            }
            same(told(bare), told(whole));
        }
    }

    /** "The getters ... change nothing": a run with all of them called in between answers the same. */
    private static void gettersChangeNothing() {
        for (int seed = 0; seed < 8; seed++) {
            Random random = new Random(seed);
            TimestampCoherence looked = new TimestampCoherence(3, 3, 4, 2);
            TimestampCoherence left = new TimestampCoherence(3, 3, 4, 2);
            for (int i = 0; i < 150; i++) {
                int[] call = Calls.picked(random, 3, 3, 5);
                same(Calls.made(looked, call), Calls.made(left, call));
                callEveryGetter(looked);
            }
            same(told(looked), told(left));
        }
    }

    private static void callEveryGetter(TimestampCoherence x) {
        int[] names = {LOWEST, -1, 0, 1, 2, 3, 4, 8, HIGHEST};
        int[] fields = {LOWEST, -1, 0, 1, 2, 3, 4, 5, 6, 7, 8, 9, 10, 11, 12, HIGHEST};
        x.commits();
        for (int name : names) {
            x.clock(name);
            x.ordered(name);
            for (int field : fields) {
                x.pending(name, field);
                x.line(name, field);
                x.log(name, field);
                for (int address : names) {
                    x.copy(name, address, field);
                    x.recallFlying(name, address);
                }
            }
        }
    }

    private static int[] with(int[] some, int... more) {
        int[] all = new int[some.length + more.length];
        System.arraycopy(some, 0, all, 0, some.length);
        System.arraycopy(more, 0, all, some.length, more.length);
        return all;
    }
}
