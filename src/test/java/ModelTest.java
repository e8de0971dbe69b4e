import java.util.Map;
import java.util.Random;
import java.util.TreeMap;

/** The class and the model get the same calls, picked by a fixed rule, and must never differ. */
public final class ModelTest extends Checks {
    private static final int RUNS = 150;
    private static final int CALLS = 700;

    private static final Map<String, Integer> ANSWERS = new TreeMap<>();

    public static void main(String[] args) {
        for (int seed = 0; seed < RUNS; seed++) {
            compare(new Random(seed));
        }
        everyAnswerWasSeen();
        finish();
    }

    private static void compare(Random random) {
        int cores = random.nextInt(5) + 1;
        int lines = random.nextBoolean() ? random.nextInt(3) : random.nextInt(10);
        int lease = random.nextInt(18);
        int ways = random.nextInt(6);
        TimestampCoherence x = new TimestampCoherence(cores, lines, lease, ways);
        Model model = new Model(cores, lines, lease, ways);
        // Mostly short steps, to keep the clocks near the leases; long ones, to come to the clock's limit.
        int longest = random.nextInt(4) == 0 ? 66 : 5;
        for (int i = 0; i < CALLS; i++) {
            int[] call = Calls.picked(
                    random, Math.max(2, Math.min(4, cores)), Math.max(1, Math.min(8, lines)), longest);
            int got = Calls.made(x, call);
            same(got, Calls.made(model, call));
            ANSWERS.merge(Calls.METHODS[call[0]] + " " + got, 1, Integer::sum);
            Map<String, String> rows = told(x);
            Map<String, String> want = model.told();
            if (!rows.equals(want)) {
                same(rows, want);
                return;
            }
        }
    }

    /** Runs that never reach an answer would compare nothing there. */
    private static void everyAnswerWasSeen() {
        int[][] answers = {
            {BAD, WAITING, FULL, NO_ROOM, DONE, SENT},
            {BAD, WAITING, NOTHING, DROPPED, RETURNED},
            {BAD, WAITING, FULL, DONE},
            {BAD, NOTHING, BOUNCED, RENEWED, SUPPLIED},
            {BAD, NOTHING, DONE},
            {BAD, NOTHING, YIELDED, IGNORED},
            {BAD, NOTHING, DONE},
        };
        int kinds = 0;
        for (int i = 0; i < answers.length; i++) {
            for (int answer : answers[i]) {
                kinds++;
                String name = Calls.METHODS[i] + " " + answer;
                same(name + ": " + ANSWERS.containsKey(name), name + ": true");
            }
        }
        same(ANSWERS.size(), kinds);
    }
}
