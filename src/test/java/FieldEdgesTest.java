/** The edges that promises 1 to 7 name, each sentence in a method of its own. */
public final class FieldEdgesTest {
    private static final Checks CHECKS = new Checks();
    private static final Class<IllegalStateException> STATE = IllegalStateException.class;
    private static final Class<IllegalArgumentException> ARGUMENT = IllegalArgumentException.class;
    private static final Class<ArithmeticException> ARITHMETIC = ArithmeticException.class;
    private static final int LEAST = Integer.MIN_VALUE;
    private static final int MOST = Integer.MAX_VALUE;
    private static final int[] ANY = {LEAST, -1, 0, 1, 2, 125, MOST};

    public static void main(String[] args) {
        Twins fresh = new Twins(CHECKS, "on a new object", x -> { });
        Twins refused = new Twins(CHECKS, "after refused begins", FieldEdgesTest::refusedBegins);
        withoutACodeEveryCallButBeginIsRefused(fresh);
        withoutACodeEveryCallButBeginIsRefused(refused);
        beginNeedsNoCode();
        Twins[] all = {fresh, refused, Twins.of(CHECKS, Scene.NARROW), Twins.of(CHECKS, Scene.MIDDLE),
            Twins.of(CHECKS, Scene.WIDE)};
        for (Twins twins : all) {
            errorsBelow1OrAbove3AreRefused(twins);
            depthsBelow1OrAbove4AreRefused(twins);
            degreesBelow3OrAbove5AreRefused(twins);
            polynomialsThatAreNotPrimitiveAreRefused(twins);
            wrongArgumentsGoBeforeNotPrimitive(twins);
        }
        beginAnswersTheMessageBitsOfAWord();
        beginMakesMessageChannelAndSlots0();
        beginReachesWhatAShallowerCodeHid();
        lengthIsThatOfTheNewestCode();
        generatorOfEachCode();
        generatorIs0AtEachPowerAndNoneIsShorter();
        for (Scene scene : Scene.ALL) {
            Twins twins = Twins.of(CHECKS, scene);
            lengthAndGeneratorChangeNothing(twins, scene);
            powersWrapAround(twins, scene);
            powersBelow0AreRefused(twins);
            logsAre0ToTheLast(twins, scene);
            logsOf0AndOfNoElementAreRefused(twins, scene);
            productsOfTheFirstAndLastElement(twins, scene);
            productsOfNoElementAreRefused(twins, scene);
        }
        elementsOfALargerFieldAreNone();
        CHECKS.end("FieldEdgesTest");
    }

    private static void refusedBegins(NoisyCodes x) {
        CHECKS.throwsOnly("begin(15, 1, 1)", ARITHMETIC, () -> x.begin(15, 1, 1));
        CHECKS.throwsOnly("begin(11, 0, 1)", ARGUMENT, () -> x.begin(11, 0, 1));
        CHECKS.throwsOnly("begin(11, 1, 5)", ARGUMENT, () -> x.begin(11, 1, 5));
        CHECKS.throwsOnly("begin(64, 1, 1)", ARGUMENT, () -> x.begin(64, 1, 1));
    }

    /** Terms: "every call throws IllegalStateException, before anything else, when no code was begun". */
    private static void withoutACodeEveryCallButBeginIsRefused(Twins twins) {
        twins.refuse("length()", STATE, NoisyCodes::length);
        twins.refuse("generator()", STATE, NoisyCodes::generator);
        twins.refuse("encode()", STATE, NoisyCodes::encode);
        for (int a : ANY) {
            twins.refuse("power(" + a + ")", STATE, x -> x.power(a));
            twins.refuse("log(" + a + ")", STATE, x -> x.log(a));
            twins.refuse("get(" + a + ")", STATE, x -> x.get(a));
            twins.refuse("bit(" + a + ")", STATE, x -> x.bit(a));
            twins.refuse("decode(" + a + ")", STATE, x -> x.decode(a));
            twins.refuse("save(" + a + ")", STATE, x -> x.save(a));
            twins.refuse("load(" + a + ")", STATE, x -> x.load(a));
            for (int b : ANY) {
                String both = "(" + a + ", " + b + ")";
                twins.refuse("times" + both, STATE, x -> x.times(a, b));
                twins.refuse("put" + both, STATE, x -> x.put(a, b));
                twins.refuse("burst" + both, STATE, x -> x.burst(a, b));
                twins.refuse("noise" + both, STATE, x -> x.noise(a, b));
                twins.refuse("syndrome" + both, STATE, x -> x.syndrome(a, b));
            }
        }
    }

    /** Terms: "But for begin()". */
    private static void beginNeedsNoCode() {
        NoisyCodes x = new NoisyCodes();
        CHECKS.answers("begin(11, 1, 1) on a new object", 4, () -> x.begin(11, 1, 1));
        NoisyCodes y = new NoisyCodes();
        refusedBegins(y);
        CHECKS.answers("begin(61, 3, 4) after refused begins", 16, () -> y.begin(61, 3, 4));
        CHECKS.answers("length()", 31, y::length);
    }

    /** Promise 2: "t is not 1 .. 3". */
    private static void errorsBelow1OrAbove3AreRefused(Twins twins) {
        for (int t : new int[] {0, 4, -1, 5, LEAST, MOST}) {
            twins.refuse("begin(37, " + t + ", 1)", ARGUMENT, x -> x.begin(37, t, 1));
        }
        CHECKS.answers("begin(37, 1, 1)", 26, () -> twins.played().begin(37, 1, 1));
        CHECKS.answers("begin(37, 3, 1)", 16, () -> twins.played().begin(37, 3, 1));
    }

    /** Promise 2: "depth not 1 .. 4". */
    private static void depthsBelow1OrAbove4AreRefused(Twins twins) {
        for (int depth : new int[] {0, 5, -1, 6, LEAST, MOST}) {
            twins.refuse("begin(37, 2, " + depth + ")", ARGUMENT, x -> x.begin(37, 2, depth));
        }
        CHECKS.answers("begin(37, 2, 1)", 21, () -> twins.played().begin(37, 2, 1));
        CHECKS.answers("begin(37, 2, 4)", 21, () -> twins.played().begin(37, 2, 4));
    }

    /** Promise 2: "the polynomial has no degree 3, 4 or 5 (or bits above)". */
    private static void degreesBelow3OrAbove5AreRefused(Twins twins) {
        for (int p : new int[] {7, 64, 0, 1, 2, 3, 4, -1, -11, 67, 127, LEAST, MOST}) {
            twins.refuse("begin(" + p + ", 1, 1)", ARGUMENT, x -> x.begin(p, 1, 1));
        }
        for (int above = 6; above < 32; above++) {
            int p = 1 << above | 11;
            twins.refuse("begin(" + p + ", 1, 1)", ARGUMENT, x -> x.begin(p, 1, 1));
        }
        long[][] firstAndLast = {{11, 4}, {13, 4}, {19, 11}, {25, 11}, {37, 26}, {61, 26}};
        for (long[] row : firstAndLast) {
            CHECKS.answers("begin(" + row[0] + ", 1, 1)", row[1], () -> twins.played().begin((int) row[0], 1, 1));
        }
    }

    /** Promise 2: "it is not primitive"; 31 has no factor, but its powers of x are 1 too soon. */
    private static void polynomialsThatAreNotPrimitiveAreRefused(Twins twins) {
        int refused = 0;
        for (int p = 8; p < 64; p++) {
            if (!isListed(p)) {
                int polynomial = p;
                twins.refuse("begin(" + p + ", 1, 1)", ARITHMETIC, x -> x.begin(polynomial, 1, 1));
                refused++;
            }
        }
        CHECKS.same("polynomials that are not primitive", refused, 46);
    }

    private static boolean isListed(int polynomial) {
        for (int listed : Checks.PRIMITIVE) {
            if (listed == polynomial) {
                return true;
            }
        }
        return false;
    }

    /** Promise 2 and Terms: "the one named first when several would do". */
    private static void wrongArgumentsGoBeforeNotPrimitive(Twins twins) {
        int[][] wrong = {{15, 0, 1}, {15, 4, 1}, {31, 1, 0}, {31, 1, 5}, {63, LEAST, 1}, {63, MOST, 1}, {8, 1, LEAST},
            {8, 1, MOST}, {32, 0, 0}, {7, 0, 0}, {64, 4, 5}, {LEAST, LEAST, LEAST}, {MOST, MOST, MOST}};
        for (int[] row : wrong) {
            twins.refuse("begin(" + row[0] + ", " + row[1] + ", " + row[2] + ")", ARGUMENT,
                    x -> x.begin(row[0], row[1], row[2]));
        }
    }

    /** Promise 2: "Begins a code by a polynomial, for t errors, with a depth: k". */
    private static void beginAnswersTheMessageBitsOfAWord() {
        for (int p : Checks.PRIMITIVE) {
            int[] due = p < 16 ? new int[] {4, 1, 1} : p < 32 ? new int[] {11, 7, 5} : new int[] {26, 21, 16};
            for (int t = 1; t <= 3; t++) {
                for (int depth = 1; depth <= 4; depth++) {
                    CHECKS.same("begin(" + p + ", " + t + ", " + depth + ")", new NoisyCodes().begin(p, t, depth), due[t - 1]);
                }
            }
        }
    }

    /** Promise 2: "The message, the channel and all that was kept are 0 then". */
    private static void beginMakesMessageChannelAndSlots0() {
        for (Scene before : Scene.ALL) {
            for (Scene after : Scene.ALL) {
                String what = " begun " + after + " after one " + before;
                NoisyCodes x = allOnes(before, before.begun());
                CHECKS.same("begin" + what, x.begin(after.polynomial, after.t, after.depth), after.k);
                isAll0("a code" + what, x, after);
                for (int slot = 0; slot < 4; slot++) {
                    NoisyCodes y = allOnes(before, before.begun());
                    y.begin(after.polynomial, after.t, after.depth);
                    y.burst(0, after.channelBits());
                    int from = slot;
                    CHECKS.answers("load(" + slot + ") of a code" + what, 0, () -> y.load(from));
                    isAll0("what a slot kept of a code" + what, y, after);
                }
            }
        }
    }

    /** Message, channel and slots full of 1; a word of 1 alone is a codeword of every code. */
    private static NoisyCodes allOnes(Scene scene, NoisyCodes x) {
        x.burst(0, scene.channelBits());
        for (int slot = 0; slot < 4; slot++) {
            x.save(slot);
        }
        CHECKS.answers("decode(0) of words of 1 alone", 0, () -> x.decode(0));
        CHECKS.sameText("message", Checks.messageOf(x, scene.messageBits()), "1".repeat(scene.messageBits()));
        return x;
    }

    private static void isAll0(String what, NoisyCodes x, Scene scene) {
        CHECKS.sameText("message of " + what, Checks.messageOf(x, scene.messageBits()), "0".repeat(scene.messageBits()));
        CHECKS.sameText("channel of " + what, Checks.channelOf(x, scene.channelBits()), "0".repeat(scene.channelBits()));
    }

    /** Promise 2: what a deep code left is 0 even if a code of depth 1 came between. */
    private static void beginReachesWhatAShallowerCodeHid() {
        for (int slot = 0; slot < 4; slot++) {
            NoisyCodes x = allOnes(Scene.WIDE, Scene.WIDE.begun());
            x.begin(11, 1, 1);
            x.save(slot);
            x.begin(37, 3, 4);
            isAll0("a deep code after a shallow one", x, Scene.WIDE);
            int from = slot;
            CHECKS.answers("load(" + slot + ")", 0, () -> x.load(from));
            isAll0("what was kept", x, Scene.WIDE);
        }
    }

    /** Promise 3. */
    private static void lengthIsThatOfTheNewestCode() {
        NoisyCodes x = new NoisyCodes();
        int[][] due = {{61, 31}, {11, 7}, {25, 15}, {13, 7}, {37, 31}, {19, 15}};
        for (int[] row : due) {
            x.begin(row[0], 1, 4);
            CHECKS.answers("length() by " + row[0], row[1], x::length);
        }
    }

    /** Promise 4, with the generators that the tables of such codes print. */
    private static void generatorOfEachCode() {
        int[][] due = {{11, 11, 127, 127}, {13, 13, 127, 127}, {19, 19, 0721, 02467}, {37, 045, 03551, 0107657}};
        for (int[] row : due) {
            NoisyCodes x = new NoisyCodes();
            for (int t = 1; t <= 3; t++) {
                x.begin(row[0], t, 1);
                CHECKS.answers("generator() by " + row[0] + " for " + t, row[t], x::generator);
            }
        }
    }

    /** Terms: "of the least degree that is 1 at its highest coefficient and 0 at each of the powers 1, 2, .. 2 t". */
    private static void generatorIs0AtEachPowerAndNoneIsShorter() {
        for (int p : Checks.PRIMITIVE) {
            for (int t = 1; t <= 3; t++) {
                int g = Checks.begun(p, t, 1).generator();
                CHECKS.same("generator " + g + " at its powers", PlainCodes.zeroAtPowers(g, p, t) ? 1 : 0, 1);
                CHECKS.same("generator by " + p + " for " + t, g, PlainCodes.leastGenerator(p, t));
            }
        }
    }

    private static void lengthAndGeneratorChangeNothing(Twins twins, Scene scene) {
        twins.read("length()", scene.n, NoisyCodes::length);
        twins.read("generator()", PlainCodes.leastGenerator(scene.polynomial, scene.t), NoisyCodes::generator);
    }

    /** Promise 5: the first power, the last, and those that come round again, up to the largest int. */
    private static void powersWrapAround(Twins twins, Scene scene) {
        int last = PlainCodes.raised(scene.n - 1, scene.polynomial);
        twins.read("power(0)", 1, x -> x.power(0));
        twins.read("power(1)", 2, x -> x.power(1));
        twins.read("power(n - 1)", last, x -> x.power(scene.n - 1));
        twins.read("power(n)", 1, x -> x.power(scene.n));
        twins.read("power(n + 1)", 2, x -> x.power(scene.n + 1));
        twins.read("power(2 n - 1)", last, x -> x.power(2 * scene.n - 1));
        twins.read("power(2 n)", 1, x -> x.power(2 * scene.n));
        // 2147483647 is 1 more than a multiple of 7 and of 31, and 7 more than one of 15.
        int most = scene.n == 15 ? 11 : 2;
        twins.read("power(most)", most, x -> x.power(MOST));
        twins.read("power(most - 1)", scene.n == 15 ? 12 : 1, x -> x.power(MOST - 1));
    }

    /** Promise 5: "e is below 0". */
    private static void powersBelow0AreRefused(Twins twins) {
        for (int e : new int[] {-1, -7, -15, -31, LEAST + 1, LEAST}) {
            twins.refuse("power(" + e + ")", ARGUMENT, x -> x.power(e));
        }
    }

    /** Promise 6 and Terms: "every element but 0 is one of the powers 0 .. n - 1: that is its LOG". */
    private static void logsAre0ToTheLast(Twins twins, Scene scene) {
        int last = PlainCodes.raised(scene.n - 1, scene.polynomial);
        twins.read("log(1)", 0, x -> x.log(1));
        twins.read("log(2)", 1, x -> x.log(2));
        twins.read("log of the last power", scene.n - 1, x -> x.log(last));
        int[] seen = new int[scene.n];
        NoisyCodes x = scene.begun();
        for (int element = 1; element <= scene.n; element++) {
            int log = x.log(element);
            CHECKS.same("log(" + element + ") " + scene + " is 0 .. n - 1", log >= 0 && log < scene.n ? 1 : 0, 1);
            CHECKS.same("the power of log(" + element + ") " + scene, PlainCodes.raised(log, scene.polynomial), element);
            seen[log]++;
        }
        for (int log = 0; log < scene.n; log++) {
            CHECKS.same("elements with the log " + log, seen[log], 1);
        }
    }

    /** Promise 6: "it is none, or 0". */
    private static void logsOf0AndOfNoElementAreRefused(Twins twins, Scene scene) {
        for (int element : new int[] {0, scene.n + 1, scene.n + 2, -1, -scene.n, LEAST, MOST}) {
            twins.refuse("log(" + element + ")", ARGUMENT, x -> x.log(element));
        }
    }

    /** Promise 7: 0 and the last element, n, are elements. */
    private static void productsOfTheFirstAndLastElement(Twins twins, Scene scene) {
        int n = scene.n;
        twins.read("times(0, 0)", 0, x -> x.times(0, 0));
        twins.read("times(0, n)", 0, x -> x.times(0, n));
        twins.read("times(n, 0)", 0, x -> x.times(n, 0));
        twins.read("times(1, n)", n, x -> x.times(1, n));
        twins.read("times(n, 1)", n, x -> x.times(n, 1));
        twins.read("times(n, n)", PlainCodes.multiply(n, n, scene.polynomial), x -> x.times(n, n));
        int last = PlainCodes.raised(n - 1, scene.polynomial);
        twins.read("times(last power, x)", 1, x -> x.times(last, 2));
    }

    /** Promise 7: "one is none"; a 0 beside it does not help. */
    private static void productsOfNoElementAreRefused(Twins twins, Scene scene) {
        for (int none : new int[] {scene.n + 1, scene.n + 2, -1, LEAST, MOST}) {
            for (int other : new int[] {0, 1, scene.n}) {
                twins.refuse("times(" + none + ", " + other + ")", ARGUMENT, x -> x.times(none, other));
                twins.refuse("times(" + other + ", " + none + ")", ARGUMENT, x -> x.times(other, none));
            }
            twins.refuse("times(" + none + ", " + none + ")", ARGUMENT, x -> x.times(none, none));
        }
        twins.refuse("times(least, most)", ARGUMENT, x -> x.times(LEAST, MOST));
    }

    /** Promises 6 and 7: the newest field says what is an element. */
    private static void elementsOfALargerFieldAreNone() {
        Twins twins = new Twins(CHECKS, "after a larger field", x -> {
            Scene.WIDE.play(x);
            x.begin(11, 1, 1);
        });
        for (int element : new int[] {8, 15, 16, 31}) {
            twins.refuse("log(" + element + ")", ARGUMENT, x -> x.log(element));
            twins.refuse("times(" + element + ", 1)", ARGUMENT, x -> x.times(element, 1));
            twins.refuse("times(1, " + element + ")", ARGUMENT, x -> x.times(1, element));
        }
        twins.read("log(7)", 5, x -> x.log(7));
    }
}
