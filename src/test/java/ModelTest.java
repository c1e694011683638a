import java.util.Random;

/** Long runs of chance calls, right and wrong, on NoisyCodes and on the plain model side by side. */
public final class ModelTest {
    private static final Checks CHECKS = new Checks();
    private static final int RUNS = 3000;
    private static final int CALLS = 150;
    private static final int[] ODD = {-1, 0, 1, 2, 3, 4, 5, 31, 32, 124, 125, Integer.MIN_VALUE, Integer.MAX_VALUE};

    private final Random random;
    private final NoisyCodes codes = new NoisyCodes();
    private final PlainCodes plain = new PlainCodes();
    private final StringBuilder told = new StringBuilder();

    private ModelTest(long seed) {
        random = new Random(seed);
    }

    public static void main(String[] args) {
        for (int run = 0; run < RUNS; run++) {
            new ModelTest(run).run(run);
        }
        CHECKS.end("ModelTest");
    }

    private void run(int run) {
        for (int call = 0; call < CALLS; call++) {
            int kind = call == 0 || random.nextInt(60) == 0 ? 0 : 1 + random.nextInt(15);
            both("run " + run, kind, argument(kind, 0), argument(kind, 1), argument(kind, 2));
        }
        for (int i = 0; i < plain.messageBits(); i++) {
            both("run " + run + " at its end", 7, i, 0, 0);
        }
        for (int i = 0; i < plain.channelBits(); i++) {
            both("run " + run + " at its end", 9, i, 0, 0);
        }
        for (int slot = 0; slot < 4; slot++) {
            both("run " + run + " at its end", 15, slot, 0, 0);
        }
    }

    private int argument(int kind, int place) {
        if (random.nextInt(kind == 0 ? 40 : 25) == 0) {
            return ODD[random.nextInt(ODD.length)];
        }
        switch (kind) {
            case 0: return place == 0 ? polynomial() : 1 + random.nextInt(place == 1 ? 3 : 4);
            case 3: return random.nextInt();
            case 4: case 5: return random.nextInt(34);
            case 6: return place == 0 ? random.nextInt(plain.messageBits() + 1) : random.nextInt(2);
            case 7: return random.nextInt(plain.messageBits() + 1);
            case 9: return random.nextInt(plain.channelBits() + 1);
            case 10: return place == 0 ? random.nextInt(plain.channelBits() + 1) : 1 + random.nextInt(6);
            case 11: return place == 0 ? random.nextInt() : random.nextInt(60);
            case 12: return place == 0 ? random.nextInt(5) : random.nextInt(8);
            case 13: return random.nextInt(3);
            default: return random.nextInt(4);
        }
    }

    private int polynomial() {
        return random.nextInt(5) == 0 ? random.nextInt(70) : Checks.PRIMITIVE[random.nextInt(Checks.PRIMITIVE.length)];
    }

    private void both(String where, int kind, int a, int b, int c) {
        String got = outcome(() -> onCodes(kind, a, b, c));
        String due = outcome(() -> onPlain(kind, a, b, c));
        told.append(' ').append(kind).append('(').append(a).append(',').append(b).append(',').append(c).append(')');
        CHECKS.sameText(got.equals(due) ? where : where + ":" + told, got, due);
    }

    private static String outcome(Checks.Call call) {
        try {
            return Long.toString(call.answer());
        } catch (RuntimeException e) {
            return e.getClass().getName();
        }
    }

    private long onCodes(int kind, int a, int b, int c) {
        switch (kind) {
            case 0: return codes.begin(a, b, c);
            case 1: return codes.length();
            case 2: return codes.generator();
            case 3: return codes.power(a);
            case 4: return codes.log(a);
            case 5: return codes.times(a, b);
            case 6: codes.put(a, b); return 0;
            case 7: return codes.get(a);
            case 8: return codes.encode();
            case 9: return codes.bit(a);
            case 10: codes.burst(a, b); return 0;
            case 11: return codes.noise(a, b);
            case 12: return codes.syndrome(a, b);
            case 13: return codes.decode(a);
            case 14: codes.save(a); return 0;
            default: return codes.load(a);
        }
    }

    private long onPlain(int kind, int a, int b, int c) {
        switch (kind) {
            case 0: return plain.begin(a, b, c);
            case 1: return plain.length();
            case 2: return plain.generator();
            case 3: return plain.power(a);
            case 4: return plain.log(a);
            case 5: return plain.times(a, b);
            case 6: return plain.put(a, b);
            case 7: return plain.get(a);
            case 8: return plain.encode();
            case 9: return plain.bit(a);
            case 10: return plain.burst(a, b);
            case 11: return plain.noise(a, b);
            case 12: return plain.syndrome(a, b);
            case 13: return plain.decode(a);
            case 14: return plain.save(a);
            default: return plain.load(a);
        }
    }
}
