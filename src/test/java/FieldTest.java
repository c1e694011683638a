/** Promises 1 to 7: a new object, begin, length, generator, power, log, times. */
public final class FieldTest {
    private static final Checks CHECKS = new Checks();
    private static final Class<IllegalStateException> STATE = IllegalStateException.class;
    private static final Class<IllegalArgumentException> ARGUMENT = IllegalArgumentException.class;
    private static final Class<ArithmeticException> ARITHMETIC = ArithmeticException.class;

    public static void main(String[] args) {
        promise1NoCodeComesBeforeAllElse(new NoisyCodes());
        NoisyCodes refused = new NoisyCodes();
        CHECKS.throwsOnly("begin(15, 1, 1)", ARITHMETIC, () -> refused.begin(15, 1, 1));
        promise1NoCodeComesBeforeAllElse(refused);
        promise2EveryPolynomial();
        promise2WrongInputs();
        promise2ClearsAll();
        promise2RefusedChangesNothing();
        promises3To7OverEveryField();
        promise5Power();
        promise6And7WrongInputs();
        CHECKS.end("FieldTest");
    }

    private static void promise1NoCodeComesBeforeAllElse(NoisyCodes x) {
        CHECKS.throwsOnly("length", STATE, x::length);
        CHECKS.throwsOnly("generator", STATE, x::generator);
        CHECKS.throwsOnly("power", STATE, () -> x.power(-1));
        CHECKS.throwsOnly("power", STATE, () -> x.power(1));
        CHECKS.throwsOnly("log", STATE, () -> x.log(0));
        CHECKS.throwsOnly("log", STATE, () -> x.log(1));
        CHECKS.throwsOnly("times", STATE, () -> x.times(-1, 99));
        CHECKS.throwsOnly("times", STATE, () -> x.times(1, 1));
        CHECKS.throwsOnly("put", STATE, () -> x.put(-1, 7));
        CHECKS.throwsOnly("put", STATE, () -> x.put(0, 1));
        CHECKS.throwsOnly("get", STATE, () -> x.get(-1));
        CHECKS.throwsOnly("get", STATE, () -> x.get(0));
        CHECKS.throwsOnly("encode", STATE, x::encode);
        CHECKS.throwsOnly("bit", STATE, () -> x.bit(-1));
        CHECKS.throwsOnly("bit", STATE, () -> x.bit(0));
        CHECKS.throwsOnly("burst", STATE, () -> x.burst(-1, 0));
        CHECKS.throwsOnly("burst", STATE, () -> x.burst(0, 1));
        CHECKS.throwsOnly("noise", STATE, () -> x.noise(1, -1));
        CHECKS.throwsOnly("noise", STATE, () -> x.noise(1, 10));
        CHECKS.throwsOnly("syndrome", STATE, () -> x.syndrome(-1, 0));
        CHECKS.throwsOnly("syndrome", STATE, () -> x.syndrome(0, 1));
        CHECKS.throwsOnly("decode", STATE, () -> x.decode(3));
        CHECKS.throwsOnly("decode", STATE, () -> x.decode(0));
        CHECKS.throwsOnly("save", STATE, () -> x.save(4));
        CHECKS.throwsOnly("save", STATE, () -> x.save(0));
        CHECKS.throwsOnly("load", STATE, () -> x.load(-1));
        CHECKS.throwsOnly("load", STATE, () -> x.load(0));
    }

    private static void promise2EveryPolynomial() {
        for (int p = -3; p < 140; p++) {
            int polynomial = p;
            NoisyCodes x = new NoisyCodes();
            String call = "begin(" + p + ", 1, 1)";
            if (p < 8 || p > 63) {
                CHECKS.throwsOnly(call, ARGUMENT, () -> x.begin(polynomial, 1, 1));
            } else if (isListed(p)) {
                int m = p < 16 ? 3 : p < 32 ? 4 : 5;
                CHECKS.answers(call, (1 << m) - 1 - m, () -> x.begin(polynomial, 1, 1));
            } else {
                CHECKS.throwsOnly(call, ARITHMETIC, () -> x.begin(polynomial, 1, 1));
            }
        }
        long[][] due = {{11, 4, 1, 1}, {13, 4, 1, 1}, {19, 11, 7, 5}, {25, 11, 7, 5}, {37, 26, 21, 16}, {61, 26, 21, 16}};
        for (long[] row : due) {
            for (int t = 1; t <= 3; t++) {
                for (int depth = 1; depth <= 4; depth++) {
                    CHECKS.same("begin(" + row[0] + ", " + t + ", " + depth + ")",
                            new NoisyCodes().begin((int) row[0], t, depth), row[t]);
                }
            }
        }
    }

    private static boolean isListed(int polynomial) {
        for (int listed : Checks.PRIMITIVE) {
            if (listed == polynomial) {
                return true;
            }
        }
        return false;
    }

    private static void promise2WrongInputs() {
        int[][] wrong = {{11, 0, 1}, {11, 4, 1}, {11, -1, 1}, {11, 1, 0}, {11, 1, 5}, {11, 1, -1}, {7, 1, 1}, {64, 1, 1},
            {0, 1, 1}, {-11, 1, 1}, {75, 1, 1}, {11 | 1 << 31, 1, 1}, {11 | 1 << 30, 1, 1},
            {Integer.MIN_VALUE, 1, 1}, {Integer.MAX_VALUE, 1, 1}, {11, Integer.MAX_VALUE, 1}, {11, 1, Integer.MIN_VALUE},
            {15, 0, 1}, {15, 1, 5}, {8, 4, 1}};
        for (int[] row : wrong) {
            CHECKS.throwsOnly("begin(" + row[0] + ", " + row[1] + ", " + row[2] + ")", ARGUMENT,
                    () -> new NoisyCodes().begin(row[0], row[1], row[2]));
        }
    }

    private static void promise2ClearsAll() {
        NoisyCodes x = Checks.begun(37, 1, 4);
        for (int i = 0; i < 104; i++) {
            x.put(i, 1);
        }
        x.encode();
        for (int slot = 0; slot < 4; slot++) {
            x.save(slot);
        }
        x.begin(37, 3, 4);
        CHECKS.sameText("message after begin", Checks.messageOf(x, 64), "0".repeat(64));
        CHECKS.sameText("channel after begin", Checks.channelOf(x, 124), "0".repeat(124));
        for (int slot = 0; slot < 4; slot++) {
            CHECKS.same("load(" + slot + ") after begin", x.load(slot), 0);
            CHECKS.sameText("channel after load", Checks.channelOf(x, 31), "0".repeat(31));
        }
    }

    private static void promise2RefusedChangesNothing() {
        NoisyCodes x = Checks.begun(19, 2, 2);
        x.put(3, 1);
        x.encode();
        x.save(1);
        x.burst(5, 2);
        String message = Checks.messageOf(x, 14);
        String channel = Checks.channelOf(x, 30);
        CHECKS.throwsOnly("begin(31, 1, 1)", ARITHMETIC, () -> x.begin(31, 1, 1));
        CHECKS.throwsOnly("begin(37, 1, 5)", ARGUMENT, () -> x.begin(37, 1, 5));
        CHECKS.same("length()", x.length(), 15);
        CHECKS.same("generator()", x.generator(), 465);
        CHECKS.same("power(4)", x.power(4), 3);
        CHECKS.sameText("message", Checks.messageOf(x, 14), message);
        CHECKS.sameText("channel", Checks.channelOf(x, 30), channel);
        CHECKS.same("decode(0)", x.decode(0), 2);
        CHECKS.same("load(1)", x.load(1), 0);
        CHECKS.same("get(3)", x.get(3), 1);
    }

    private static void promises3To7OverEveryField() {
        for (int p : Checks.PRIMITIVE) {
            int n = p < 16 ? 7 : p < 32 ? 15 : 31;
            for (int t = 1; t <= 3; t++) {
                NoisyCodes x = Checks.begun(p, t, 1);
                CHECKS.same("length() of " + p, x.length(), n);
                CHECKS.same("generator() of " + p + " for " + t, x.generator(), PlainCodes.leastGenerator(p, t));
            }
            NoisyCodes x = Checks.begun(p, 1, 1);
            for (int e = 0; e < 3 * n; e++) {
                CHECKS.same("power(" + e + ") of " + p, x.power(e), PlainCodes.raised(e, p));
            }
            for (int e = 0; e < n; e++) {
                CHECKS.same("log of power " + e + " of " + p, x.log(PlainCodes.raised(e, p)), e);
            }
            for (int a = 0; a <= n; a++) {
                NoisyCodes y = Checks.begun(p, 2, 1);
                for (int b = 0; b <= n; b++) {
                    CHECKS.same("times(" + a + ", " + b + ") of " + p, y.times(a, b), PlainCodes.multiply(a, b, p));
                }
            }
        }
    }

    private static void promise5Power() {
        NoisyCodes x = Checks.begun(13, 2, 2);
        CHECKS.answers("power(2147483647)", 2, () -> x.power(Integer.MAX_VALUE));
        CHECKS.throwsOnly("power(-1)", ARGUMENT, () -> x.power(-1));
        CHECKS.throwsOnly("power(least)", ARGUMENT, () -> x.power(Integer.MIN_VALUE));
    }

    private static void promise6And7WrongInputs() {
        int[] wrong = {-1, 16, 17, 31, 32, Integer.MIN_VALUE, Integer.MAX_VALUE};
        NoisyCodes x = Checks.begun(19, 1, 1);
        CHECKS.throwsOnly("log(0)", ARGUMENT, () -> x.log(0));
        for (int element : wrong) {
            CHECKS.throwsOnly("log(" + element + ")", ARGUMENT, () -> x.log(element));
            CHECKS.throwsOnly("times(" + element + ", 1)", ARGUMENT, () -> x.times(element, 1));
            CHECKS.throwsOnly("times(0, " + element + ")", ARGUMENT, () -> x.times(0, element));
        }
        NoisyCodes y = Checks.begun(37, 1, 1);
        y.begin(11, 1, 1);
        CHECKS.throwsOnly("log(8) after a smaller field", ARGUMENT, () -> y.log(8));
        CHECKS.throwsOnly("times(8, 1) after a smaller field", ARGUMENT, () -> y.times(8, 1));
    }
}
