import java.util.ArrayList;
import java.util.Comparator;
import java.util.HashMap;
import java.util.HashSet;
import java.util.LinkedHashMap;
import java.util.List;
import java.util.Map;
import java.util.Set;

/**
 * The document's system a second time, with the values travelling in copies, messages and the home
 * instead of being looked up in the log. It exists to be compared with the class.
 */
final class Model {
    private record Version(int written, int until, int value) {
        Version until(int time) {
            return new Version(written, time, value);
        }
    }

    private record Copy(boolean owned, Version version) {}

    private record Entry(int core, int kind, int address, int operand, int value, int time) {}

    private record Operation(int kind, int address, int operand) {}

    private record Reply(boolean bare, Version version) {}

    private final int cores;
    private final int lines;
    private final int lease;
    private final int ways;
    private final int[] clock;
    private final Version[] home;
    private final Integer[] owner;
    private final int[] newest;
    private final Map<Integer, Operation> operations = new HashMap<>();
    private final Map<Integer, Reply> replies = new HashMap<>();
    private final List<Map<Integer, Copy>> caches = new ArrayList<>();
    private final Set<List<Integer>> recalls = new HashSet<>();
    private final Map<Integer, Version> writeBacks = new HashMap<>();
    private final List<Entry> log = new ArrayList<>();

    Model(int cores, int lines, int lease, int ways) {
        this.cores = Math.max(2, Math.min(4, cores));
        this.lines = Math.max(1, Math.min(8, lines));
        this.lease = Math.max(1, Math.min(16, lease));
        this.ways = Math.max(1, Math.min(4, ways));
        clock = new int[this.cores];
        home = new Version[this.lines];
        owner = new Integer[this.lines];
        newest = new int[this.lines];
        for (int a = 0; a < this.lines; a++) {
            home[a] = new Version(0, 0, 0);
        }
        for (int c = 0; c < this.cores; c++) {
            caches.add(new HashMap<>());
        }
    }

    private boolean noCore(int core) {
        return core < 0 || core >= cores;
    }

    private boolean noLine(int address) {
        return address < 0 || address >= lines;
    }

    int issue(int core, int kind, int address, int operand) {
        if (noCore(core) || noLine(address) || kind < 1 || kind > 3) {
            return Checks.BAD;
        }
        if (operations.containsKey(core)) {
            return Checks.WAITING;
        }
        if (log.size() + operations.size() == 64) {
            return Checks.FULL;
        }
        Operation operation = new Operation(kind, address, kind == Checks.LOAD ? 0 : operand);
        Copy copy = caches.get(core).get(address);
        boolean leaseHolds = copy != null && kind == Checks.LOAD && clock[core] <= copy.version.until;
        if (leaseHolds || copy != null && copy.owned) {
            commit(core, operation);
            return Checks.DONE;
        }
        if (copy == null && caches.get(core).size() == ways) {
            return Checks.NO_ROOM;
        }
        operations.put(core, operation);
        return Checks.SENT;
    }

    private void commit(int core, Operation operation) {
        Copy copy = caches.get(core).get(operation.address);
        Version old = copy.version;
        int time;
        Version version;
        if (operation.kind == Checks.LOAD) {
            time = Math.max(clock[core], old.written);
            version = copy.owned ? old.until(Math.max(old.until, time)) : old;
        } else {
            time = Math.max(clock[core], old.until + 1);
            int value = operation.operand + (operation.kind == Checks.ADD ? old.value : 0);
            version = new Version(time, time, value);
            newest[operation.address] = value;
        }
        caches.get(core).put(operation.address, new Copy(copy.owned, version));
        clock[core] = time;
        log.add(new Entry(core, operation.kind, operation.address, operation.operand, version.value, time));
    }

    int evict(int core, int address) {
        if (noCore(core) || noLine(address)) {
            return Checks.BAD;
        }
        if (operations.containsKey(core)) {
            return Checks.WAITING;
        }
        Copy copy = caches.get(core).remove(address);
        if (copy == null) {
            return Checks.NOTHING;
        }
        if (copy.owned) {
            writeBacks.put(address, copy.version);
        }
        return copy.owned ? Checks.RETURNED : Checks.DROPPED;
    }

    int advance(int core, int steps) {
        if (noCore(core) || steps < 1 || steps > 64) {
            return Checks.BAD;
        }
        if (operations.containsKey(core)) {
            return Checks.WAITING;
        }
        if (clock[core] + steps > 1000) {
            return Checks.FULL;
        }
        clock[core] += steps;
        return Checks.DONE;
    }

    int deliverRequest(int core) {
        if (noCore(core)) {
            return Checks.BAD;
        }
        Operation operation = operations.get(core);
        if (operation == null || replies.containsKey(core)) {
            return Checks.NOTHING;
        }
        int a = operation.address;
        if (owner[a] != null) {
            if (owner[a] != core) {
                recalls.add(List.of(owner[a], a));
            }
            return Checks.BOUNCED;
        }
        if (operation.kind == Checks.LOAD) {
            int end = Math.max(home[a].written, clock[core]) + lease;
            home[a] = home[a].until(Math.max(home[a].until, end));
        } else {
            owner[a] = core;
        }
        Copy copy = caches.get(core).get(a);
        boolean bare = copy != null && copy.version.written == home[a].written;
        // A bare reply brings no value: the copy's own is kept.
        Version sent = home[a];
        replies.put(core, new Reply(bare, bare ? new Version(sent.written, sent.until, copy.version.value) : sent));
        return bare ? Checks.RENEWED : Checks.SUPPLIED;
    }

    int deliverReply(int core) {
        if (noCore(core)) {
            return Checks.BAD;
        }
        Reply reply = replies.remove(core);
        if (reply == null) {
            return Checks.NOTHING;
        }
        Operation operation = operations.remove(core);
        caches.get(core).put(operation.address, new Copy(operation.kind != Checks.LOAD, reply.version));
        commit(core, operation);
        return Checks.DONE;
    }

    int deliverRecall(int core, int address) {
        if (noCore(core) || noLine(address)) {
            return Checks.BAD;
        }
        if (!recalls.remove(List.of(core, address))) {
            return Checks.NOTHING;
        }
        Copy copy = caches.get(core).get(address);
        if (copy == null || !copy.owned) {
            return Checks.IGNORED;
        }
        caches.get(core).put(address, new Copy(false, copy.version));
        writeBacks.put(address, copy.version);
        return Checks.YIELDED;
    }

    int deliverWriteBack(int address) {
        if (noLine(address)) {
            return Checks.BAD;
        }
        Version version = writeBacks.remove(address);
        if (version == null) {
            return Checks.NOTHING;
        }
        home[address] = version;
        owner[address] = null;
        return Checks.DONE;
    }

    /** The same rows as Checks.told gives for the class. */
    Map<String, String> told() {
        Map<String, String> rows = new LinkedHashMap<>();
        for (int c = 0; c < cores; c++) {
            rows.put("clock" + c, "" + clock[c]);
            rows.put("pending" + c, toldPending(c));
            for (int a = 0; a < lines; a++) {
                Copy copy = caches.get(c).get(a);
                rows.put("copy" + c + "." + a, copy == null ? "0 -1 -1 -1" : (copy.owned ? 2 : 1) + " "
                        + copy.version.written + " " + copy.version.until + " " + copy.version.value);
                rows.put("recall" + c + "." + a, "" + recalls.contains(List.of(c, a)));
            }
        }
        for (int a = 0; a < lines; a++) {
            Version returning = writeBacks.get(a);
            rows.put("line" + a, (owner[a] == null ? -1 : owner[a]) + " " + home[a].written + " " + home[a].until
                    + " " + home[a].value + " " + newest[a] + " " + (returning == null ? -1 : returning.until));
        }
        rows.put("commits", "" + log.size());
        List<Integer> order = new ArrayList<>();
        for (int i = 0; i < log.size(); i++) {
            Entry e = log.get(i);
            rows.put("log" + i, e.core + " " + e.kind + " " + e.address + " " + e.operand
                    + " " + e.value + " " + e.time);
            order.add(i);
        }
        order.sort(Comparator.comparingInt(i -> log.get(i).time));
        rows.put("order", order.toString().replaceAll("[\\[\\],]", ""));
        return rows;
    }

    private String toldPending(int core) {
        Operation operation = operations.get(core);
        Reply reply = replies.get(core);
        if (operation == null) {
            return "0 -1 -1 -1 -1 -1";
        }
        String asked = " " + operation.kind + " " + operation.address + " " + operation.operand + " ";
        if (reply == null) {
            return "10" + asked + "-1 -1";
        }
        return (reply.bare ? 4 : 5) + asked + reply.version.written + " " + reply.version.until;
    }
}
