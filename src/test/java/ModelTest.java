import java.util.Random;

/** Long runs of chance calls, right and wrong, on NoisyCodes and on the plain model side by side. */
public final class ModelTest {
    private static final Checks CHECKS = new Checks();
    private static final int RUNS = 3000;
    private static final int CALLS = 150;
    private static final int LONG_RUNS = 100;
    /** The document promises no more calls of one object. */
    private static final int MOST_CALLS = 512;
    private static final int[] ODD = {-1, 0, 1, 2, 3, 4, 5, 31, 32, 124, 125, Integer.MIN_VALUE, Integer.MAX_VALUE};

    private final Random random;
    private final Pair pair;

    private ModelTest(int run) {
        random = new Random(run);
        pair = new Pair(CHECKS, "run " + run);
    }

    public static void main(String[] args) {
        for (int run = 0; run < RUNS; run++) {
            ModelTest test = new ModelTest(run);
            test.chanceCalls(CALLS);
            test.lookAtTheEnd();
        }
        for (int run = RUNS; run < RUNS + LONG_RUNS; run++) {
            new ModelTest(run).chanceCalls(MOST_CALLS);
        }
        CHECKS.end("ModelTest");
    }

    private void chanceCalls(int calls) {
        for (int call = 0; call < calls; call++) {
            boolean anew = call == 0 || random.nextInt(60) == 0;
            int kind = anew ? Pair.BEGIN : 1 + random.nextInt(Pair.CALLS - 1);
            pair.call(kind, argument(kind, 0), argument(kind, 1), argument(kind, 2));
        }
    }

    private void lookAtTheEnd() {
        pair.sameWords();
        for (int slot = 0; slot < 4; slot++) {
            pair.call(Pair.LOAD, slot, 0, 0);
        }
    }

    private int argument(int kind, int place) {
        if (random.nextInt(kind == Pair.BEGIN ? 40 : 25) == 0) {
            return ODD[random.nextInt(ODD.length)];
        }
        switch (kind) {
            case Pair.BEGIN: return place == 0 ? polynomial() : 1 + random.nextInt(place == 1 ? 3 : 4);
            case Pair.POWER: return random.nextInt();
            case Pair.LOG: case Pair.TIMES: return random.nextInt(34);
            case Pair.PUT: return place == 0 ? random.nextInt(pair.plain.messageBits() + 1) : random.nextInt(2);
            case Pair.GET: return random.nextInt(pair.plain.messageBits() + 1);
            case Pair.BIT: return random.nextInt(pair.plain.channelBits() + 1);
            case Pair.BURST: return place == 0 ? random.nextInt(pair.plain.channelBits() + 1) : 1 + random.nextInt(6);
            case Pair.NOISE: return place == 0 ? random.nextInt() : random.nextInt(60);
            case Pair.SYNDROME: return place == 0 ? random.nextInt(5) : random.nextInt(8);
            case Pair.DECODE: return random.nextInt(3);
            default: return random.nextInt(4);
        }
    }

    private int polynomial() {
        return random.nextInt(5) == 0 ? random.nextInt(70) : Checks.PRIMITIVE[random.nextInt(Checks.PRIMITIVE.length)];
    }
}
