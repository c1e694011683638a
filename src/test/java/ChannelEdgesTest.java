/** The edges that promises 8 to 14 name, each sentence in a method of its own. */
public final class ChannelEdgesTest {
    private static final Checks CHECKS = new Checks();
    private static final Class<IllegalArgumentException> ARGUMENT = IllegalArgumentException.class;
    private static final Class<IndexOutOfBoundsException> INDEX = IndexOutOfBoundsException.class;
    private static final int LEAST = Integer.MIN_VALUE;
    private static final int MOST = Integer.MAX_VALUE;

    public static void main(String[] args) {
        for (Scene scene : Scene.ALL) {
            Twins twins = Twins.of(CHECKS, scene);
            putOfNoBitIsRefused(twins, scene);
            putOfNeither0Nor1IsRefused(twins, scene);
            putOfNoBitGoesBeforeAWrongValue(twins, scene);
            putChangesOneBitAlone(scene);
            getOfTheFirstAndLastBit(twins, scene);
            getOfNoBitIsRefused(twins, scene);
            encodeOfAnEmptyMessage(scene);
            encodeOfAFullMessage(scene);
            encodePutsEachBitInItsPlace(scene);
            encodeLeavesMessageAndSlots(scene);
            bitOfTheFirstAndLastPlace(twins, scene);
            bitOfNoPlaceIsRefused(twins, scene);
            burstFromNoBitIsRefused(twins, scene);
            burstPastTheEndIsRefused(twins, scene);
            burstOfFewerThan1IsRefused(twins, scene);
            burstFromNoBitGoesBeforeAWrongNumber(twins, scene);
            burstsUpToTheEnd(scene);
            noiseOfAWrongRateIsRefused(twins);
            noiseOfRate0FlipsNothing(twins);
            noiseOfRate1000FlipsAll(scene);
            noiseFlipsBelowTheRateAlone(scene);
            noiseLeavesMessageAndSlots(scene);
            syndromeOfTheFirstAndLast(twins, scene);
            syndromeOfNoWordIsRefused(twins, scene);
            syndromeOfNoPowerIsRefused(twins, scene);
            syndromeOfOneBit(scene);
        }
        burstOf124AndOf125();
        burstsOfEveryPlaceAndNumber();
        syndromesEndAtTwiceTheErrors();
        sizesOfEveryCode();
        CHECKS.end("ChannelEdgesTest");
    }

    /** Promise 8: "there is no such bit". */
    private static void putOfNoBitIsRefused(Twins twins, Scene scene) {
        for (int i : new int[] {-1, scene.messageBits(), scene.messageBits() + 1, LEAST, MOST}) {
            twins.refuse("put(" + i + ", 0)", INDEX, x -> x.put(i, 0));
            twins.refuse("put(" + i + ", 1)", INDEX, x -> x.put(i, 1));
        }
    }

    /** Promise 8: "b is not 0 or 1"; with bits 0 and last 1 or 0 before. */
    private static void putOfNeither0Nor1IsRefused(Twins twins, Scene scene) {
        for (int b : new int[] {-1, 2, 3, -2, 256, LEAST, LEAST + 1, MOST}) {
            twins.refuse("put(0, " + b + ")", ARGUMENT, x -> x.put(0, b));
            twins.refuse("put(last, " + b + ")", ARGUMENT, x -> x.put(scene.messageBits() - 1, b));
        }
    }

    /** Promise 8 and Terms: "the one named first when several would do". */
    private static void putOfNoBitGoesBeforeAWrongValue(Twins twins, Scene scene) {
        for (int i : new int[] {-1, scene.messageBits(), LEAST, MOST}) {
            for (int b : new int[] {-1, 2, LEAST, MOST}) {
                twins.refuse("put(" + i + ", " + b + ")", INDEX, x -> x.put(i, b));
            }
        }
    }

    /** Promise 8: "Bit i of the message becomes b", the first and the last of each word among them. */
    private static void putChangesOneBitAlone(Scene scene) {
        int bits = scene.messageBits();
        for (int i = 0; i < bits; i++) {
            NoisyCodes x = scene.begun();
            String zeros = "0".repeat(bits);
            x.put(i, 1);
            CHECKS.sameText("message after put(" + i + ", 1) " + scene, Checks.messageOf(x, bits), changed(zeros, i, '1'));
            x.put(i, 1);
            CHECKS.sameText("message after put(" + i + ", 1) twice", Checks.messageOf(x, bits), changed(zeros, i, '1'));
            x.put(i, 0);
            CHECKS.sameText("message after put(" + i + ", 0)", Checks.messageOf(x, bits), zeros);
            CHECKS.sameText("channel after put(" + i + ", 0)", Checks.channelOf(x, scene.channelBits()),
                    "0".repeat(scene.channelBits()));
            NoisyCodes full = fullMessage(scene);
            full.put(i, 0);
            CHECKS.sameText("message after put(" + i + ", 0) into ones", Checks.messageOf(full, bits),
                    changed("1".repeat(bits), i, '0'));
        }
    }

    private static String changed(String text, int i, char bit) {
        return text.substring(0, i) + bit + text.substring(i + 1);
    }

    private static NoisyCodes fullMessage(Scene scene) {
        NoisyCodes x = scene.begun();
        for (int i = 0; i < scene.messageBits(); i++) {
            x.put(i, 1);
        }
        return x;
    }

    /** Promise 9: bits 0 and D * k - 1; the scene's story set bit 0 back to 0. */
    private static void getOfTheFirstAndLastBit(Twins twins, Scene scene) {
        int last = scene.messageBits() - 1;
        twins.read("get(0)", 0, x -> x.get(0));
        twins.read("get(last)", last > 0 && last % 3 == 0 ? 1 : 0, x -> x.get(last));
    }

    /** Promise 9: "there is none". */
    private static void getOfNoBitIsRefused(Twins twins, Scene scene) {
        for (int i : new int[] {-1, scene.messageBits(), scene.messageBits() + 1, LEAST, MOST}) {
            twins.refuse("get(" + i + ")", INDEX, x -> x.get(i));
        }
    }

    /** Promise 10: no bit is 1. */
    private static void encodeOfAnEmptyMessage(Scene scene) {
        NoisyCodes x = scene.begun();
        CHECKS.answers("encode() of nothing " + scene, 0, x::encode);
        x.burst(0, scene.channelBits());
        CHECKS.answers("encode() of nothing again " + scene, 0, x::encode);
        CHECKS.sameText("channel", Checks.channelOf(x, scene.channelBits()), "0".repeat(scene.channelBits()));
    }

    /** Promise 10: a word of 1 alone is the codeword of a message of 1 alone, so all D * n bits are 1. */
    private static void encodeOfAFullMessage(Scene scene) {
        NoisyCodes x = fullMessage(scene);
        CHECKS.answers("encode() of ones " + scene, scene.channelBits(), x::encode);
        CHECKS.sameText("channel", Checks.channelOf(x, scene.channelBits()), "1".repeat(scene.channelBits()));
    }

    /** Terms: message bit w * k + i is coefficient n - k + i of word w, which is channel bit (n - k + i) * D + w. */
    private static void encodePutsEachBitInItsPlace(Scene scene) {
        int g = PlainCodes.leastGenerator(scene.polynomial, scene.t);
        for (int w = 0; w < scene.depth; w++) {
            for (int i = 0; i < scene.k; i++) {
                NoisyCodes x = scene.begun();
                x.put(w * scene.k + i, 1);
                int high = 1 << (scene.n - scene.k + i);
                int word = high ^ PlainCodes.remainder(high, g);
                String what = "encode() of bit " + i + " of word " + w + " " + scene;
                CHECKS.answers(what, Integer.bitCount(word), x::encode);
                for (int place = 0; place < scene.channelBits(); place++) {
                    int due = place % scene.depth == w ? word >> place / scene.depth & 1 : 0;
                    CHECKS.same("bit(" + place + ") after " + what, x.bit(place), due);
                }
            }
        }
    }

    /** Promise 10: "The channel becomes the codewords", and nothing else becomes another. */
    private static void encodeLeavesMessageAndSlots(Scene scene) {
        NoisyCodes x = new NoisyCodes();
        scene.play(x);
        String before = Checks.messageOf(x, scene.messageBits());
        x.encode();
        CHECKS.sameText("message after encode() " + scene, Checks.messageOf(x, scene.messageBits()), before);
        slotsAreAsPlayed(x, scene, "encode()");
    }

    private static void slotsAreAsPlayed(NoisyCodes x, Scene scene, String call) {
        CHECKS.answers("load(0) after " + call + " " + scene, 0, () -> x.load(0));
        CHECKS.answers("load(1) after " + call + " " + scene, scene.t * scene.depth, () -> x.load(1));
        CHECKS.throwsOnly("load(2) after " + call + " " + scene, ArithmeticException.class, () -> x.load(2));
        CHECKS.answers("load(3) after " + call + " " + scene, 0, () -> x.load(3));
        CHECKS.sameText("the empty slot after " + call + " " + scene, Checks.channelOf(x, scene.channelBits()),
                "0".repeat(scene.channelBits()));
    }

    /** Promise 11: bits 0 and D * n - 1. */
    private static void bitOfTheFirstAndLastPlace(Twins twins, Scene scene) {
        int last = scene.channelBits() - 1;
        NoisyCodes x = scene.begun();
        x.burst(0, 1);
        CHECKS.answers("bit(0) " + scene, 1, () -> x.bit(0));
        CHECKS.answers("bit(last) " + scene, 0, () -> x.bit(last));
        x.burst(0, last + 1);
        CHECKS.answers("bit(0) " + scene, 0, () -> x.bit(0));
        CHECKS.answers("bit(last) " + scene, 1, () -> x.bit(last));
        int played = twins.played().bit(last);
        twins.read("bit(last)", played, y -> y.bit(last));
    }

    /** Promise 11: "there is none". */
    private static void bitOfNoPlaceIsRefused(Twins twins, Scene scene) {
        for (int i : new int[] {-1, scene.channelBits(), scene.channelBits() + 1, LEAST, MOST}) {
            twins.refuse("bit(" + i + ")", INDEX, x -> x.bit(i));
        }
    }

    /** Promise 12: "there is no bit i". */
    private static void burstFromNoBitIsRefused(Twins twins, Scene scene) {
        for (int i : new int[] {-1, scene.channelBits(), scene.channelBits() + 1, LEAST, MOST}) {
            twins.refuse("burst(" + i + ", 1)", INDEX, x -> x.burst(i, 1));
            twins.refuse("burst(" + i + ", 2)", INDEX, x -> x.burst(i, 2));
        }
        twins.refuse("burst(most, most)", INDEX, x -> x.burst(MOST, MOST));
        twins.refuse("burst(least, most)", INDEX, x -> x.burst(LEAST, MOST));
    }

    /** Promise 12: "there are not so many from it on"; a sum that wraps round does not help. */
    private static void burstPastTheEndIsRefused(Twins twins, Scene scene) {
        int bits = scene.channelBits();
        for (int i : new int[] {0, 1, bits / 2, bits - 2, bits - 1}) {
            for (int many : new int[] {bits - i + 1, bits - i + 2, 125, 126, MOST - bits, MOST - i, MOST - 1, MOST}) {
                twins.refuse("burst(" + i + ", " + many + ")", INDEX, x -> x.burst(i, many));
            }
        }
    }

    /** Promise 12: "many is not 1 .. 124". */
    private static void burstOfFewerThan1IsRefused(Twins twins, Scene scene) {
        for (int many : new int[] {0, -1, -124, -125, LEAST, LEAST + 1}) {
            twins.refuse("burst(0, " + many + ")", ARGUMENT, x -> x.burst(0, many));
            twins.refuse("burst(last, " + many + ")", ARGUMENT, x -> x.burst(scene.channelBits() - 1, many));
        }
    }

    /** Promise 12 and Terms: "the one named first when several would do". */
    private static void burstFromNoBitGoesBeforeAWrongNumber(Twins twins, Scene scene) {
        for (int i : new int[] {-1, scene.channelBits(), LEAST, MOST}) {
            for (int many : new int[] {0, -1, 125, LEAST, MOST}) {
                twins.refuse("burst(" + i + ", " + many + ")", INDEX, x -> x.burst(i, many));
            }
        }
        // No channel has more than 124 bits, so that many too many are always past its end as well.
        twins.refuse("burst(0, 125)", INDEX, x -> x.burst(0, 125));
        twins.refuse("burst(0, most)", INDEX, x -> x.burst(0, MOST));
    }

    /** Promise 12: as many as there are from each bit on, but not one more. */
    private static void burstsUpToTheEnd(Scene scene) {
        int bits = scene.channelBits();
        for (int i = 0; i < bits; i++) {
            int from = i;
            NoisyCodes x = scene.begun();
            CHECKS.throwsOnly("burst(" + i + ", one too many) " + scene, INDEX, () -> x.burst(from, bits - from + 1));
            CHECKS.sameText("channel after it", Checks.channelOf(x, bits), "0".repeat(bits));
            x.burst(i, bits - i);
            CHECKS.sameText("channel after burst(" + i + ", to the end) " + scene, Checks.channelOf(x, bits),
                    "0".repeat(i) + "1".repeat(bits - i));
            CHECKS.sameText("message after it", Checks.messageOf(x, scene.messageBits()), "0".repeat(scene.messageBits()));
        }
    }

    /** Promise 12: 124 is the most, and only the widest channel has them. */
    private static void burstOf124AndOf125() {
        NoisyCodes x = Checks.begun(61, 1, 4);
        x.burst(0, 124);
        CHECKS.sameText("channel after burst(0, 124)", Checks.channelOf(x, 124), "1".repeat(124));
        CHECKS.throwsOnly("burst(0, 125)", INDEX, () -> x.burst(0, 125));
        CHECKS.throwsOnly("burst(1, 124)", INDEX, () -> x.burst(1, 124));
        CHECKS.sameText("channel after refused bursts", Checks.channelOf(x, 124), "1".repeat(124));
        NoisyCodes narrower = Checks.begun(61, 1, 3);
        CHECKS.throwsOnly("burst(0, 124) on 93 bits", INDEX, () -> narrower.burst(0, 124));
    }

    /** Promise 12: "from i on, as many as said, are flipped". */
    private static void burstsOfEveryPlaceAndNumber() {
        for (int i = 0; i < 21; i++) {
            for (int many = 1; many <= 21 - i; many++) {
                NoisyCodes x = Checks.begun(13, 1, 3);
                x.burst(i, many);
                String due = "0".repeat(i) + "1".repeat(many) + "0".repeat(21 - i - many);
                CHECKS.sameText("channel after burst(" + i + ", " + many + ")", Checks.channelOf(x, 21), due);
                x.burst(i, many);
                CHECKS.sameText("channel after two bursts", Checks.channelOf(x, 21), "0".repeat(21));
            }
        }
    }

    /** Promise 13: "rate is not 0 .. 1000", whatever the seed. */
    private static void noiseOfAWrongRateIsRefused(Twins twins) {
        for (int rate : new int[] {-1, 1001, -2, 1002, LEAST, MOST}) {
            for (int seed : new int[] {LEAST, -1, 0, 1, MOST}) {
                twins.refuse("noise(" + seed + ", " + rate + ")", ARGUMENT, x -> x.noise(seed, rate));
            }
        }
    }

    /** Promise 13: nothing is below 0, even where x is. */
    private static void noiseOfRate0FlipsNothing(Twins twins) {
        for (int seed : new int[] {LEAST, -1, 0, 1, 12345, MOST}) {
            twins.read("noise(" + seed + ", 0)", 0, x -> x.noise(seed, 0));
        }
    }

    /** Promise 13: everything is below 1000. */
    private static void noiseOfRate1000FlipsAll(Scene scene) {
        int bits = scene.channelBits();
        for (int seed : new int[] {LEAST, -1, 0, 1, 12345, MOST}) {
            NoisyCodes x = scene.begun();
            CHECKS.answers("noise(" + seed + ", 1000) " + scene, bits, () -> x.noise(seed, 1000));
            CHECKS.sameText("channel after it", Checks.channelOf(x, bits), "1".repeat(bits));
            CHECKS.answers("noise(" + seed + ", 1000) again", bits, () -> x.noise(seed, 1000));
            CHECKS.sameText("channel after it", Checks.channelOf(x, bits), "0".repeat(bits));
        }
    }

    /** Promise 13: "is below rate", tried at, below and above the number of each bit, 0 and 999 among them. */
    private static void noiseFlipsBelowTheRateAlone(Scene scene) {
        int bits = scene.channelBits();
        boolean[] tried = new boolean[1000];
        for (int seed = -20000; seed < 20000 && !(tried[0] && tried[999] && tried[500]); seed++) {
            int first = numberAfter(seed);
            boolean wanted = first == 0 || first == 999 || first == 500;
            for (int rate = Math.max(0, first - 1); wanted && !tried[first] && rate <= first + 1; rate++) {
                noiseIsDue(scene, bits, seed, rate);
            }
            tried[first] |= wanted;
        }
        CHECKS.same("seeds were found", tried[0] && tried[999] && tried[500] ? 1 : 0, 1);
        for (int seed : new int[] {LEAST, LEAST + 1, -1, 0, 1, MOST - 1, MOST}) {
            for (int rate : new int[] {0, 1, 2, 499, 500, 501, 998, 999, 1000}) {
                noiseIsDue(scene, bits, seed, rate);
            }
        }
    }

    private static int numberAfter(int seed) {
        long wrapped = (seed * 1103515245L + 12345) & 0xffffffffL;
        return (int) (wrapped / 65536 % 1000);
    }

    private static void noiseIsDue(Scene scene, int bits, int seed, int rate) {
        StringBuilder due = new StringBuilder();
        int flips = 0;
        int x = seed;
        for (int i = 0; i < bits; i++) {
            int number = numberAfter(x);
            x = (int) (x * 1103515245L + 12345);
            due.append(number < rate ? 1 : 0);
            flips += number < rate ? 1 : 0;
        }
        NoisyCodes codes = scene.begun();
        CHECKS.answers("noise(" + seed + ", " + rate + ") " + scene, flips, () -> codes.noise(seed, rate));
        CHECKS.sameText("channel after noise(" + seed + ", " + rate + ") " + scene, Checks.channelOf(codes, bits), due.toString());
    }

    /** Promise 13: it is the channel's bits that are flipped. */
    private static void noiseLeavesMessageAndSlots(Scene scene) {
        NoisyCodes x = new NoisyCodes();
        scene.play(x);
        String before = Checks.messageOf(x, scene.messageBits());
        x.noise(99, 700);
        CHECKS.sameText("message after noise " + scene, Checks.messageOf(x, scene.messageBits()), before);
        slotsAreAsPlayed(x, scene, "noise");
        NoisyCodes y = new NoisyCodes();
        scene.play(y);
        y.burst(0, scene.channelBits());
        CHECKS.sameText("message after a burst " + scene, Checks.messageOf(y, scene.messageBits()), before);
        slotsAreAsPlayed(y, scene, "a burst");
    }

    /** Promise 14: words 0 and D - 1, syndromes 1 and 2 t. */
    private static void syndromeOfTheFirstAndLast(Twins twins, Scene scene) {
        // The story leaves codewords with one wrong coefficient, the highest of the last word.
        int wrong = scene.n - 1;
        int last = scene.depth - 1;
        int p = scene.polynomial;
        twins.read("syndrome(last, 1)", PlainCodes.raised(wrong, p), x -> x.syndrome(last, 1));
        twins.read("syndrome(last, 2 t)", PlainCodes.raised(wrong * 2 * scene.t, p), x -> x.syndrome(last, 2 * scene.t));
        if (last > 0) {
            twins.read("syndrome(0, 1)", 0, x -> x.syndrome(0, 1));
            twins.read("syndrome(0, 2 t)", 0, x -> x.syndrome(0, 2 * scene.t));
        }
    }

    /** Promise 14: "there is no such word". */
    private static void syndromeOfNoWordIsRefused(Twins twins, Scene scene) {
        for (int w : new int[] {-1, scene.depth, scene.depth + 1, LEAST, MOST}) {
            for (int j : new int[] {1, 2 * scene.t, 0, 2 * scene.t + 1, LEAST, MOST}) {
                twins.refuse("syndrome(" + w + ", " + j + ")", INDEX, x -> x.syndrome(w, j));
            }
        }
    }

    /** Promise 14: "or syndrome". */
    private static void syndromeOfNoPowerIsRefused(Twins twins, Scene scene) {
        for (int j : new int[] {0, 2 * scene.t + 1, -1, 2 * scene.t + 2, LEAST, MOST}) {
            twins.refuse("syndrome(0, " + j + ")", INDEX, x -> x.syndrome(0, j));
            twins.refuse("syndrome(last, " + j + ")", INDEX, x -> x.syndrome(scene.depth - 1, j));
        }
    }

    /** Terms: "its values at the powers 1 .. 2 t": coefficient i alone has the value x to the i j. */
    private static void syndromeOfOneBit(Scene scene) {
        for (int place = 0; place < scene.channelBits(); place++) {
            NoisyCodes x = scene.begun();
            x.burst(place, 1);
            for (int w = 0; w < scene.depth; w++) {
                for (int j = 1; j <= 2 * scene.t; j++) {
                    int due = place % scene.depth == w ? PlainCodes.raised(place / scene.depth * j, scene.polynomial) : 0;
                    CHECKS.same("syndrome(" + w + ", " + j + ") of bit " + place + " " + scene, x.syndrome(w, j), due);
                }
            }
        }
    }

    /** Promise 14: "Syndrome j (1 .. 2 t)". */
    private static void syndromesEndAtTwiceTheErrors() {
        for (int t = 1; t <= 3; t++) {
            NoisyCodes x = Checks.begun(25, t, 2);
            int last = 2 * t;
            CHECKS.answers("syndrome(1, 1) for " + t, 0, () -> x.syndrome(1, 1));
            CHECKS.answers("syndrome(1, " + last + ") for " + t, 0, () -> x.syndrome(1, last));
            CHECKS.throwsOnly("syndrome(1, 0) for " + t, INDEX, () -> x.syndrome(1, 0));
            CHECKS.throwsOnly("syndrome(1, " + (last + 1) + ") for " + t, INDEX, () -> x.syndrome(1, last + 1));
        }
    }

    /** Terms: D * k bits of the message, D * n bits of the channel, D words, in every code. */
    private static void sizesOfEveryCode() {
        for (int p : Checks.PRIMITIVE) {
            NoisyCodes x = new NoisyCodes();
            int n = p < 16 ? 7 : p < 32 ? 15 : 31;
            int[] k = p < 16 ? new int[] {4, 1, 1} : p < 32 ? new int[] {11, 7, 5} : new int[] {26, 21, 16};
            for (int t = 1; t <= 3; t++) {
                for (int depth = 1; depth <= 4; depth++) {
                    x.begin(p, t, depth);
                    sizesAre(x, depth * k[t - 1], depth * n, depth);
                }
            }
        }
    }

    private static void sizesAre(NoisyCodes x, int message, int channel, int depth) {
        x.put(message - 1, 1);
        CHECKS.answers("get(" + (message - 1) + ")", 1, () -> x.get(message - 1));
        CHECKS.throwsOnly("get(" + message + ")", INDEX, () -> x.get(message));
        CHECKS.throwsOnly("put(" + message + ", 0)", INDEX, () -> x.put(message, 0));
        x.burst(channel - 1, 1);
        CHECKS.answers("bit(" + (channel - 1) + ")", 1, () -> x.bit(channel - 1));
        CHECKS.throwsOnly("bit(" + channel + ")", INDEX, () -> x.bit(channel));
        CHECKS.throwsOnly("burst(" + channel + ", 1)", INDEX, () -> x.burst(channel, 1));
        CHECKS.answers("noise of all", channel, () -> x.noise(3, 1000));
        // All is 1 but the highest coefficient of the last word; ones alone are a codeword.
        CHECKS.answers("syndrome of word " + (depth - 1), x.power(x.length() - 1), () -> x.syndrome(depth - 1, 1));
        CHECKS.throwsOnly("syndrome of word " + depth, INDEX, () -> x.syndrome(depth, 1));
    }
}
