public final class TimestampCoherence {
    public static final int BAD = -1;
    public static final int WAITING = -2;
    public static final int FULL = -3;
    public static final int NO_ROOM = -4;
    public static final int NOTHING = -5;

    public static final int DONE = 1;
    public static final int SENT = 2;
    public static final int BOUNCED = 3;
    public static final int RENEWED = 4;
    public static final int SUPPLIED = 5;
    public static final int DROPPED = 6;
    public static final int RETURNED = 7;
    public static final int YIELDED = 8;
    public static final int IGNORED = 9;

    public static final int IDLE = 0;
    public static final int ASKING = 10;

    public static final int LOAD = 1;
    public static final int STORE = 2;
    public static final int ADD = 3;

    public static final int ABSENT = 0;
    public static final int LEASED = 1;
    public static final int OWNED = 2;

    public static final int STATE = 0;
    public static final int KIND = 1;
    public static final int CORE = 2;
    public static final int ADDRESS = 3;
    public static final int OPERAND = 4;
    public static final int VALUE = 5;
    public static final int TIME = 6;
    public static final int WRITTEN = 7;
    public static final int UNTIL = 8;
    public static final int OWNER = 9;
    public static final int LATEST = 10;
    public static final int RETURNING = 11;

    private static final int LEAST_CORES = 2;
    private static final int MOST_CORES = 4;
    private static final int MOST_LINES = 8;
    private static final int MOST_LEASE = 16;
    private static final int MOST_WAYS = 4;
    private static final int MOST_PAIRS = MOST_CORES * MOST_LINES;
    private static final int LOG_ROOM = 64;
    private static final int MOST_STEPS = 64;
    private static final int LAST_ADVANCED_CLOCK = 1000;

    // Told by the getters, and kept as an owner, where there is none.
    private static final int NONE = -1;

    private final int cores;
    private final int lines;
    private final int lease;
    private final int ways;

    private final int[] clocks = new int[MOST_CORES];

    // A core has one message to or from the home at most, told by its phase:
    // a request while ASKING, a reply while RENEWED or SUPPLIED.
    private final int[] phases = new int[MOST_CORES];
    private final int[] pendingKinds = new int[MOST_CORES];
    private final int[] pendingAddresses = new int[MOST_CORES];
    private final int[] pendingOperands = new int[MOST_CORES];
    private final int[] replyWritten = new int[MOST_CORES];
    private final int[] replyUntil = new int[MOST_CORES];

    private final int[] copyStates = new int[MOST_PAIRS];
    private final int[] copyWritten = new int[MOST_PAIRS];
    private final int[] copyUntil = new int[MOST_PAIRS];
    private final boolean[] recalls = new boolean[MOST_PAIRS];

    private final int[] homeOwners = new int[MOST_LINES];
    private final int[] homeWritten = new int[MOST_LINES];
    private final int[] homeUntil = new int[MOST_LINES];

    private final boolean[] writeBacks = new boolean[MOST_LINES];
    private final int[] writeBackWritten = new int[MOST_LINES];
    private final int[] writeBackUntil = new int[MOST_LINES];

    // Values are kept in the log alone: a written time names a version of a
    // line, so copies, home and messages need no value of their own.
    private final int[] logCores = new int[LOG_ROOM];
    private final int[] logKinds = new int[LOG_ROOM];
    private final int[] logAddresses = new int[LOG_ROOM];
    private final int[] logOperands = new int[LOG_ROOM];
    private final int[] logValues = new int[LOG_ROOM];
    private final int[] logTimes = new int[LOG_ROOM];
    private int entries = 0;

    public TimestampCoherence(int cores, int lines, int lease, int ways) {
        this.cores = clamped(cores, LEAST_CORES, MOST_CORES);
        this.lines = clamped(lines, 1, MOST_LINES);
        this.lease = clamped(lease, 1, MOST_LEASE);
        this.ways = clamped(ways, 1, MOST_WAYS);
        for (int address = 0; address < MOST_LINES; address++) {
            homeOwners[address] = NONE;
        }
    }

    public int issue(int core, int kind, int address, int operand) {
        if (isBadCore(core) || kind < LOAD || kind > ADD || isBadAddress(address)) {
            return BAD;
        }
        if (phases[core] != IDLE) {
            return WAITING;
        }
        // A pending operation has its log entry kept free from the start, so
        // that its reply can always commit.
        if (entries + pendingCount() >= LOG_ROOM) {
            return FULL;
        }
        int taken = kind == LOAD ? 0 : operand;
        if (isHit(core, kind, address)) {
            commit(core, kind, address, taken);
            return DONE;
        }
        if (copyStates[pairOf(core, address)] == ABSENT && copyCount(core) >= ways) {
            return NO_ROOM;
        }
        phases[core] = ASKING;
        pendingKinds[core] = kind;
        pendingAddresses[core] = address;
        pendingOperands[core] = taken;
        return SENT;
    }

    public int evict(int core, int address) {
        if (isBadCore(core) || isBadAddress(address)) {
            return BAD;
        }
        if (phases[core] != IDLE) {
            return WAITING;
        }
        int pair = pairOf(core, address);
        int state = copyStates[pair];
        if (state == ABSENT) {
            return NOTHING;
        }
        copyStates[pair] = ABSENT;
        if (state == LEASED) {
            return DROPPED;
        }
        sendWriteBack(address, pair);
        return RETURNED;
    }

    public int advance(int core, int steps) {
        if (isBadCore(core) || steps < 1 || steps > MOST_STEPS) {
            return BAD;
        }
        if (phases[core] != IDLE) {
            return WAITING;
        }
        if (clocks[core] + steps > LAST_ADVANCED_CLOCK) {
            return FULL;
        }
        clocks[core] += steps;
        return DONE;
    }

    public int deliverRequest(int core) {
        if (isBadCore(core)) {
            return BAD;
        }
        if (phases[core] != ASKING) {
            return NOTHING;
        }
        int address = pendingAddresses[core];
        int owner = homeOwners[address];
        if (owner != NONE) {
            // A core that is still the owner here has a write-back under way
            // already, so it needs no recall.
            if (owner != core) {
                recalls[pairOf(owner, address)] = true;
            }
            return BOUNCED;
        }
        if (pendingKinds[core] == LOAD) {
            extendLease(core, address);
        } else {
            homeOwners[address] = core;
        }
        return sendReply(core, address);
    }

    public int deliverReply(int core) {
        if (isBadCore(core)) {
            return BAD;
        }
        if (!hasReply(core)) {
            return NOTHING;
        }
        int kind = pendingKinds[core];
        int address = pendingAddresses[core];
        int pair = pairOf(core, address);
        copyStates[pair] = kind == LOAD ? LEASED : OWNED;
        copyWritten[pair] = replyWritten[core];
        copyUntil[pair] = replyUntil[core];
        commit(core, kind, address, pendingOperands[core]);
        phases[core] = IDLE;
        return DONE;
    }

    public int deliverRecall(int core, int address) {
        if (isBadCore(core) || isBadAddress(address)) {
            return BAD;
        }
        int pair = pairOf(core, address);
        if (!recalls[pair]) {
            return NOTHING;
        }
        recalls[pair] = false;
        if (copyStates[pair] != OWNED) {
            return IGNORED;
        }
        copyStates[pair] = LEASED;
        sendWriteBack(address, pair);
        return YIELDED;
    }

    public int deliverWriteBack(int address) {
        if (isBadAddress(address)) {
            return BAD;
        }
        if (!writeBacks[address]) {
            return NOTHING;
        }
        writeBacks[address] = false;
        homeWritten[address] = writeBackWritten[address];
        homeUntil[address] = writeBackUntil[address];
        homeOwners[address] = NONE;
        return DONE;
    }

    public int clock(int core) {
        return isBadCore(core) ? BAD : clocks[core];
    }

    public int pending(int core, int field) {
        if (isBadCore(core)) {
            return BAD;
        }
        boolean idle = phases[core] == IDLE;
        boolean replied = hasReply(core);
        switch (field) {
            case STATE:
                return phases[core];
            case KIND:
                return idle ? NONE : pendingKinds[core];
            case ADDRESS:
                return idle ? NONE : pendingAddresses[core];
            case OPERAND:
                return idle ? NONE : pendingOperands[core];
            case WRITTEN:
                return replied ? replyWritten[core] : NONE;
            case UNTIL:
                return replied ? replyUntil[core] : NONE;
            default:
                return BAD;
        }
    }

    public int copy(int core, int address, int field) {
        if (isBadCore(core) || isBadAddress(address)) {
            return BAD;
        }
        int pair = pairOf(core, address);
        boolean absent = copyStates[pair] == ABSENT;
        switch (field) {
            case STATE:
                return copyStates[pair];
            case WRITTEN:
                return absent ? NONE : copyWritten[pair];
            case UNTIL:
                return absent ? NONE : copyUntil[pair];
            case VALUE:
                return absent ? NONE : versionValue(address, copyWritten[pair]);
            default:
                return BAD;
        }
    }

    public boolean recallFlying(int core, int address) {
        if (isBadCore(core) || isBadAddress(address)) {
            return false;
        }
        return recalls[pairOf(core, address)];
    }

    public int line(int address, int field) {
        if (isBadAddress(address)) {
            return BAD;
        }
        switch (field) {
            case OWNER:
                return homeOwners[address];
            case WRITTEN:
                return homeWritten[address];
            case UNTIL:
                return homeUntil[address];
            case VALUE:
                return versionValue(address, homeWritten[address]);
            case LATEST:
                return latestValue(address);
            case RETURNING:
                return writeBacks[address] ? writeBackUntil[address] : NONE;
            default:
                return BAD;
        }
    }

    public int commits() {
        return entries;
    }

    public int log(int index, int field) {
        if (index < 0 || index >= entries) {
            return BAD;
        }
        switch (field) {
            case CORE:
                return logCores[index];
            case KIND:
                return logKinds[index];
            case ADDRESS:
                return logAddresses[index];
            case OPERAND:
                return logOperands[index];
            case VALUE:
                return logValues[index];
            case TIME:
                return logTimes[index];
            default:
                return BAD;
        }
    }

    public int ordered(int rank) {
        for (int index = 0; index < entries; index++) {
            if (rankOf(index) == rank) {
                return index;
            }
        }
        return BAD;
    }

    private static int clamped(int given, int least, int most) {
        if (given < least) {
            return least;
        }
        return given > most ? most : given;
    }

    private static int larger(int one, int other) {
        return one > other ? one : other;
    }

    private static int pairOf(int core, int address) {
        return core * MOST_LINES + address;
    }

    private boolean isBadCore(int core) {
        return core < 0 || core >= cores;
    }

    private boolean isBadAddress(int address) {
        return address < 0 || address >= lines;
    }

    private boolean hasReply(int core) {
        return phases[core] == RENEWED || phases[core] == SUPPLIED;
    }

    private boolean isHit(int core, int kind, int address) {
        int pair = pairOf(core, address);
        if (copyStates[pair] == OWNED) {
            return true;
        }
        return kind == LOAD && copyStates[pair] == LEASED && clocks[core] <= copyUntil[pair];
    }

    private int pendingCount() {
        int count = 0;
        for (int core = 0; core < cores; core++) {
            if (phases[core] != IDLE) {
                count++;
            }
        }
        return count;
    }

    private int copyCount(int core) {
        int count = 0;
        for (int address = 0; address < lines; address++) {
            if (copyStates[pairOf(core, address)] != ABSENT) {
                count++;
            }
        }
        return count;
    }

    private void extendLease(int core, int address) {
        int readable = larger(homeWritten[address], clocks[core]);
        homeUntil[address] = larger(homeUntil[address], readable + lease);
    }

    private int sendReply(int core, int address) {
        int pair = pairOf(core, address);
        boolean current = copyStates[pair] != ABSENT && copyWritten[pair] == homeWritten[address];
        replyWritten[core] = homeWritten[address];
        replyUntil[core] = homeUntil[address];
        phases[core] = current ? RENEWED : SUPPLIED;
        return phases[core];
    }

    private void sendWriteBack(int address, int pair) {
        writeBacks[address] = true;
        writeBackWritten[address] = copyWritten[pair];
        writeBackUntil[address] = copyUntil[pair];
    }

    private void commit(int core, int kind, int address, int operand) {
        int pair = pairOf(core, address);
        int value = versionValue(address, copyWritten[pair]);
        int time;
        if (kind == LOAD) {
            time = larger(clocks[core], copyWritten[pair]);
            if (copyStates[pair] == OWNED) {
                copyUntil[pair] = larger(copyUntil[pair], time);
            }
        } else {
            time = larger(clocks[core], copyUntil[pair] + 1);
            value = kind == ADD ? value + operand : operand;
            copyWritten[pair] = time;
            copyUntil[pair] = time;
        }
        clocks[core] = time;
        addEntry(core, kind, address, operand, value, time);
    }

    private void addEntry(int core, int kind, int address, int operand, int value, int time) {
        logCores[entries] = core;
        logKinds[entries] = kind;
        logAddresses[entries] = address;
        logOperands[entries] = operand;
        logValues[entries] = value;
        logTimes[entries] = time;
        entries++;
    }

    private boolean isVersionOf(int index, int address) {
        return logAddresses[index] == address && logKinds[index] != LOAD;
    }

    private int versionValue(int address, int written) {
        for (int index = 0; index < entries; index++) {
            if (isVersionOf(index, address) && logTimes[index] == written) {
                return logValues[index];
            }
        }
        // The version written at 0 has no entry: a store is never that early.
        return 0;
    }

    private int latestValue(int address) {
        int latest = 0;
        int value = 0;
        for (int index = 0; index < entries; index++) {
            if (isVersionOf(index, address) && logTimes[index] > latest) {
                latest = logTimes[index];
                value = logValues[index];
            }
        }
        return value;
    }

    private int rankOf(int index) {
        int before = 0;
        for (int other = 0; other < entries; other++) {
            boolean earlier = logTimes[other] < logTimes[index];
            boolean tiedBefore = logTimes[other] == logTimes[index] && other < index;
            if (earlier || tiedBefore) {
                before++;
            }
        }
        return before;
    }
}
