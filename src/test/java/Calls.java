import java.util.Random;

/**
 * Calls as rows of numbers (a method's place in METHODS, then its arguments), so that one run of calls
 * can be made on several objects.
 */
final class Calls {
    static final String[] METHODS = {
        "issue", "evict", "advance", "deliverRequest", "deliverReply", "deliverRecall", "deliverWriteBack"};

    private static final int[] OPERANDS = {Checks.LOWEST, -1, 0, 1, 2, 1000, Checks.HIGHEST};

    private Calls() {}

    /** The next call for an object of this size; longest bounds the steps of advance, and may be too long. */
    static int[] picked(Random random, int cores, int lines, int longest) {
        int core = name(random, cores);
        int address = name(random, lines);
        switch (random.nextInt(12)) {
            case 0, 1, 2, 3:
                int kind = random.nextInt(30) == 0 ? random.nextInt(6) - 1 : random.nextInt(3) + 1;
                return new int[] {0, core, kind, address, OPERANDS[random.nextInt(OPERANDS.length)]};
            case 4:
                return new int[] {1, core, address};
            case 5:
                return new int[] {2, core, longest - random.nextInt(6)};
            case 6, 7:
                return new int[] {3, core};
            case 8, 9:
                return new int[] {4, core};
            case 10:
                return new int[] {5, core, address};
            default:
                return new int[] {6, address};
        }
    }

    /** A good number, or now and then the one below or above. */
    private static int name(Random random, int count) {
        return random.nextInt(40) == 0 ? (random.nextBoolean() ? -1 : count) : random.nextInt(count);
    }

    static int made(TimestampCoherence x, int[] call) {
        return switch (call[0]) {
            case 0 -> x.issue(call[1], call[2], call[3], call[4]);
            case 1 -> x.evict(call[1], call[2]);
            case 2 -> x.advance(call[1], call[2]);
            case 3 -> x.deliverRequest(call[1]);
            case 4 -> x.deliverReply(call[1]);
            case 5 -> x.deliverRecall(call[1], call[2]);
            default -> x.deliverWriteBack(call[1]);
        };
    }

    static int made(Model model, int[] call) {
        return switch (call[0]) {
            case 0 -> model.issue(call[1], call[2], call[3], call[4]);
            case 1 -> model.evict(call[1], call[2]);
            case 2 -> model.advance(call[1], call[2]);
            case 3 -> model.deliverRequest(call[1]);
            case 4 -> model.deliverReply(call[1]);
            case 5 -> model.deliverRecall(call[1], call[2]);
            default -> model.deliverWriteBack(call[1]);
        };
    }
}
