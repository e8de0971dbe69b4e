import java.util.Map;
import java.util.Random;
import java.util.TreeMap;

/** The class and the model get the same calls, picked by a fixed rule, and must never differ. */
public final class ModelTest extends Checks {
    private static final int RUNS = 150;
    private static final int CALLS = 700;
    private static final int[] OPERANDS = {LOWEST, -1, 0, 1, 2, 1000, HIGHEST};

    private static final Map<String, Integer> ANSWERS = new TreeMap<>();

    public static void main(String[] args) {
        for (int seed = 0; seed < RUNS; seed++) {
            compare(new Random(seed));
        }
        everyAnswerWasSeen();
        finish();
    }

    private static void compare(Random random) {
        int cores = random.nextInt(5) + 1;
        int lines = random.nextBoolean() ? random.nextInt(3) : random.nextInt(10);
        int lease = random.nextInt(18);
        int ways = random.nextInt(6);
        TimestampCoherence x = new TimestampCoherence(cores, lines, lease, ways);
        Model model = new Model(cores, lines, lease, ways);
        // Mostly short steps, to keep the clocks near the leases; long ones, to come to the clock's limit.
        int longest = random.nextInt(4) == 0 ? 66 : 5;
        for (int i = 0; i < CALLS; i++) {
            int core = picked(random, Math.max(2, Math.min(4, cores)));
            int address = picked(random, Math.max(1, Math.min(8, lines)));
            step(x, model, random, core, address, longest);
            Map<String, String> got = told(x);
            Map<String, String> want = model.told();
            if (!got.equals(want)) {
                same(got, want);
                return;
            }
        }
        same(told(x), model.told());
    }

    /** A good number, or now and then the one below or above. */
    private static int picked(Random random, int count) {
        return random.nextInt(40) == 0 ? (random.nextBoolean() ? -1 : count) : random.nextInt(count);
    }

    private static void step(
            TimestampCoherence x, Model model, Random random, int core, int address, int longest) {
        switch (random.nextInt(12)) {
            case 0, 1, 2, 3 -> {
                int kind = random.nextInt(30) == 0 ? random.nextInt(6) - 1 : random.nextInt(3) + 1;
                int operand = OPERANDS[random.nextInt(OPERANDS.length)];
                both("issue", x.issue(core, kind, address, operand), model.issue(core, kind, address, operand));
            }
            case 4 -> both("evict", x.evict(core, address), model.evict(core, address));
            case 5 -> {
                int steps = longest - random.nextInt(6);
                both("advance", x.advance(core, steps), model.advance(core, steps));
            }
            case 6, 7 -> both("deliverRequest", x.deliverRequest(core), model.deliverRequest(core));
            case 8, 9 -> both("deliverReply", x.deliverReply(core), model.deliverReply(core));
            case 10 -> both("deliverRecall", x.deliverRecall(core, address), model.deliverRecall(core, address));
            default -> both("deliverWriteBack", x.deliverWriteBack(address), model.deliverWriteBack(address));
        }
    }

    private static void both(String method, int got, int want) {
        same(got, want);
        ANSWERS.merge(method + " " + got, 1, Integer::sum);
    }

    /** Runs that never reach an answer would compare nothing there. */
    private static void everyAnswerWasSeen() {
        int[][] answers = {
            {BAD, WAITING, FULL, NO_ROOM, DONE, SENT},
            {BAD, WAITING, NOTHING, DROPPED, RETURNED},
            {BAD, WAITING, FULL, DONE},
            {BAD, NOTHING, BOUNCED, RENEWED, SUPPLIED},
            {BAD, NOTHING, DONE},
            {BAD, NOTHING, YIELDED, IGNORED},
            {BAD, NOTHING, DONE},
        };
        String[] methods = {
            "issue", "evict", "advance", "deliverRequest", "deliverReply", "deliverRecall", "deliverWriteBack"};
        int kinds = 0;
        for (int i = 0; i < methods.length; i++) {
            for (int answer : answers[i]) {
                kinds++;
                same(methods[i] + " " + answer + ": " + ANSWERS.containsKey(methods[i] + " " + answer),
                        methods[i] + " " + answer + ": true");
            }
        }
        same(ANSWERS.size(), kinds);
    }
}
