import java.util.Arrays;
import java.util.Random;

/** All promises at once: runs of 512 drawn calls (the same ones each time), each answer held against the model's. */
public final class ModelTest {
    private static final int RUNS = 3_000;
    private static final int CALLS = 512;
    private static final int[] EDGES = {Integer.MIN_VALUE, -2, -1, 0, 1, Integer.MAX_VALUE};

    /** Each method with the greatest ordinary value of each argument; K and I stand for kinds and incidents. */
    private static final int K = -1;
    private static final int I = -2;
    private static final String[] METHODS = {"kind", "parent", "says", "need", "close", "area", "upgrade", "has", "in",
        "open", "found", "send", "missing", "incident", "unit", "uncovered", "coded", "count"};
    private static final int[][] GREATEST = {{K}, {K, K}, {K, 3, 9999, 99}, {K, 15, 9999, 2, 20}, {K, 9999}, {K, 9, K},
        {K, 31, K}, {K, 25, 9999}, {K, 9}, {K, 9, 9999}, {I, 31, 9999}, {I, 15, 100}, {I, 15, 9999}, {I, 2}, {19, 65535},
        {9999, 39}, {99, 9999}, {4}};

    private final String title;
    private final Random random;
    private final Model model = new Model();
    private final Calls calls;
    private final int[] weights = new int[METHODS.length];
    private final int width;
    private int kinds;
    private int incidents;

    private ModelTest(int run) {
        random = new Random(run);
        title = "run " + run + " against the model";
        calls = Calls.on(title);
        // Weights far apart let a run fill one limit or another; a small width makes the numbers meet.
        for (int i = 0; i < weights.length; i++) {
            weights[i] = 1 + (int) Math.pow(random.nextInt(11), 3);
        }
        width = random.nextBoolean() ? 3 : random.nextBoolean() ? 12 : 10_000;
    }

    public static void main(String[] args) {
        for (int run = 0; run < RUNS; run++) {
            new ModelTest(run).run();
        }
        Calls.end();
    }

    private void run() {
        for (int call = 0; call < CALLS; call++) {
            int method = call < 2 ? 0 : drawMethod();
            int[] arguments = new int[GREATEST[method].length];
            for (int i = 0; i < arguments.length; i++) {
                arguments[i] = draw(method, GREATEST[method][i]);
            }
            String due = model.due(METHODS[method], arguments);
            String got = calls.answer(METHODS[method], arguments);
            if (!got.equals(due)) {
                Calls.fail(title + ", call " + call + ": " + METHODS[method] + Arrays.toString(arguments)
                    + " answered " + got + ", due is " + due);
                return;
            }
            kinds += method == 0 && due.matches("\\d+") ? 1 : 0;
            incidents += METHODS[method].equals("open") && due.matches("\\d+") ? 1 : 0;
        }
    }

    private int drawMethod() {
        int all = 0;
        for (int weight : weights) {
            all += weight;
        }
        int left = random.nextInt(all);
        int method = 0;
        while (left >= weights[method]) {
            left -= weights[method];
            method++;
        }
        return method;
    }

    private int draw(int method, int greatest) {
        boolean kind = greatest == K;
        int bound = kind ? kinds - 1 : greatest == I ? incidents - 1 : greatest;
        if (random.nextInt(40) == 0) {
            return bound + 1 - random.nextInt(2);
        }
        if (random.nextInt(40) == 0) {
            return EDGES[random.nextInt(EDGES.length)];
        }
        if (kind && method == 0 && random.nextInt(3) == 0) {
            return -1;
        }
        // Kinds told last are drawn more often, so that the tree grows deep.
        int low = kind && random.nextBoolean() ? Math.max(0, bound - 3) : 0;
        return low + random.nextInt(Math.max(1, Math.min(bound - low + 1, kind ? 40 : width)));
    }
}
