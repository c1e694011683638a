/** Promises 8 to 14: put, get, encode, bit, burst, noise, syndrome. */
public final class ChannelTest {
    private static final Checks CHECKS = new Checks();
    private static final Class<IllegalArgumentException> ARGUMENT = IllegalArgumentException.class;
    private static final Class<IndexOutOfBoundsException> INDEX = IndexOutOfBoundsException.class;

    public static void main(String[] args) {
        promises8And9PutAndGet();
        promises8And9WrongInputs();
        promise10OneWord();
        promise10WeavesWords();
        promise10EveryMessage();
        promise11WrongInputs();
        promise12Burst();
        promise12WrongInputs();
        promise13Noise();
        promise13Edges();
        promise14Syndrome();
        promise14WrongInputs();
        CHECKS.end("ChannelTest");
    }

    private static void promises8And9PutAndGet() {
        NoisyCodes x = Checks.begun(19, 2, 4);
        CHECKS.sameText("a new message", Checks.messageOf(x, 28), "0".repeat(28));
        for (int i = 0; i < 28; i++) {
            x.put(i, i % 3 == 0 ? 1 : 0);
        }
        CHECKS.sameText("message", Checks.messageOf(x, 28), "1001001001001001001001001001");
        CHECKS.sameText("channel after put", Checks.channelOf(x, 60), "0".repeat(60));
        x.put(0, 0);
        x.put(1, 1);
        x.put(27, 0);
        x.put(3, 1);
        CHECKS.sameText("message", Checks.messageOf(x, 28), "0101001001001001001001001000");
    }

    private static void promises8And9WrongInputs() {
        NoisyCodes x = Checks.begun(11, 1, 4);
        for (int i : new int[] {-1, 16, 17, Integer.MIN_VALUE, Integer.MAX_VALUE}) {
            CHECKS.throwsOnly("put(" + i + ", 1)", INDEX, () -> x.put(i, 1));
            CHECKS.throwsOnly("put(" + i + ", 2)", INDEX, () -> x.put(i, 2));
            CHECKS.throwsOnly("get(" + i + ")", INDEX, () -> x.get(i));
        }
        x.put(5, 1);
        for (int b : new int[] {-1, 2, 3, Integer.MIN_VALUE, Integer.MAX_VALUE}) {
            CHECKS.throwsOnly("put(5, " + b + ")", ARGUMENT, () -> x.put(5, b));
            CHECKS.throwsOnly("put(15, " + b + ")", ARGUMENT, () -> x.put(15, b));
        }
        CHECKS.sameText("message after wrong calls", Checks.messageOf(x, 16), "0000010000000000");
    }

    private static void promise10OneWord() {
        NoisyCodes x = Checks.begun(19, 2, 1);
        x.put(0, 1);
        x.put(3, 1);
        x.put(6, 1);
        CHECKS.same("encode()", x.encode(), 5);
        CHECKS.sameText("channel", Checks.channelOf(x, 15), "001001001001001");
        CHECKS.sameText("message after encode", Checks.messageOf(x, 7), "1001001");
        x.burst(0, 15);
        CHECKS.same("encode() again", x.encode(), 5);
        CHECKS.sameText("channel", Checks.channelOf(x, 15), "001001001001001");
    }

    private static void promise10WeavesWords() {
        NoisyCodes x = Checks.begun(11, 1, 3);
        x.put(4, 1);
        CHECKS.same("encode()", x.encode(), 3);
        CHECKS.sameText("only word 1 is not 0", Checks.channelOf(x, 21), "010010000010000000000");
    }

    private static void promise10EveryMessage() {
        for (int p : new int[] {11, 13, 19, 25}) {
            for (int t = 1; t <= 3; t++) {
                int g = PlainCodes.leastGenerator(p, t);
                int n = p < 16 ? 7 : 15;
                int k = n - PlainCodes.degree(g);
                for (int word = 0; word < 1 << k; word++) {
                    encodesTo(p, t, word, word << (n - k) ^ PlainCodes.remainder(word << (n - k), g));
                }
            }
        }
    }

    private static void encodesTo(int p, int t, int word, int codeword) {
        NoisyCodes x = new NoisyCodes();
        int k = x.begin(p, t, 1);
        for (int i = 0; i < k; i++) {
            x.put(i, word >> i & 1);
        }
        CHECKS.same("encode() of " + word + " by " + p + " for " + t, x.encode(), Integer.bitCount(codeword));
        for (int i = 0; i < x.length(); i++) {
            CHECKS.same("bit(" + i + ") of " + word + " by " + p + " for " + t, x.bit(i), codeword >> i & 1);
        }
    }

    private static void promise11WrongInputs() {
        NoisyCodes x = Checks.begun(41, 2, 3);
        CHECKS.answers("bit(0)", 0, () -> x.bit(0));
        CHECKS.answers("bit(92)", 0, () -> x.bit(92));
        for (int i : new int[] {-1, 93, 124, Integer.MIN_VALUE, Integer.MAX_VALUE}) {
            CHECKS.throwsOnly("bit(" + i + ")", INDEX, () -> x.bit(i));
        }
    }

    private static void promise12Burst() {
        NoisyCodes x = Checks.begun(11, 1, 2);
        x.burst(3, 4);
        CHECKS.sameText("channel", Checks.channelOf(x, 14), "00011110000000");
        x.burst(5, 9);
        CHECKS.sameText("channel", Checks.channelOf(x, 14), "00011001111111");
        x.burst(13, 1);
        x.burst(0, 14);
        CHECKS.sameText("channel", Checks.channelOf(x, 14), "11100110000001");
        CHECKS.sameText("message after bursts", Checks.messageOf(x, 8), "00000000");
        NoisyCodes widest = Checks.begun(61, 3, 4);
        widest.burst(0, 124);
        CHECKS.sameText("channel", Checks.channelOf(widest, 124), "1".repeat(124));
    }

    private static void promise12WrongInputs() {
        NoisyCodes x = Checks.begun(11, 1, 4);
        int[][] noBit = {{-1, 1}, {28, 1}, {27, 2}, {0, 29}, {0, 125}, {1, Integer.MAX_VALUE}, {28, 0}, {-1, 0},
            {Integer.MAX_VALUE, 1}, {Integer.MAX_VALUE, Integer.MAX_VALUE}, {Integer.MIN_VALUE, 0}, {28, -5}};
        for (int[] row : noBit) {
            CHECKS.throwsOnly("burst(" + row[0] + ", " + row[1] + ")", INDEX, () -> x.burst(row[0], row[1]));
        }
        for (int many : new int[] {0, -1, -28, Integer.MIN_VALUE}) {
            CHECKS.throwsOnly("burst(0, " + many + ")", ARGUMENT, () -> x.burst(0, many));
            CHECKS.throwsOnly("burst(27, " + many + ")", ARGUMENT, () -> x.burst(27, many));
        }
        NoisyCodes widest = Checks.begun(37, 1, 4);
        CHECKS.throwsOnly("burst(0, 125) on the widest channel", INDEX, () -> widest.burst(0, 125));
        CHECKS.sameText("channel after wrong calls", Checks.channelOf(x, 28), "0".repeat(28));
    }

    private static void promise13Noise() {
        int[] seeds = {0, 1, 7, 12345, -1, -98765, Integer.MIN_VALUE, Integer.MAX_VALUE};
        for (int seed : seeds) {
            for (int rate : new int[] {0, 1, 40, 500, 999, 1000}) {
                NoisyCodes x = Checks.begun(59, 2, 4);
                x.burst(10, 60);
                StringBuilder due = new StringBuilder();
                int flips = 0;
                int state = seed;
                for (int i = 0; i < 124; i++) {
                    state = state * 1103515245 + 12345;
                    boolean flipped = (state >>> 16) % 1000 < rate;
                    boolean before = i >= 10 && i < 70;
                    due.append(flipped != before ? 1 : 0);
                    flips += flipped ? 1 : 0;
                }
                CHECKS.same("noise(" + seed + ", " + rate + ")", x.noise(seed, rate), flips);
                CHECKS.sameText("channel after noise", Checks.channelOf(x, 124), due.toString());
            }
        }
        NoisyCodes told = Checks.begun(11, 1, 4);
        CHECKS.same("noise(7, 40)", told.noise(7, 40), 2);
    }

    private static void promise13Edges() {
        NoisyCodes x = Checks.begun(41, 2, 3);
        for (int rate : new int[] {-1, 1001, Integer.MIN_VALUE, Integer.MAX_VALUE}) {
            CHECKS.throwsOnly("noise(1, " + rate + ")", ARGUMENT, () -> x.noise(1, rate));
        }
        CHECKS.same("noise(1, 0)", x.noise(1, 0), 0);
        CHECKS.sameText("channel", Checks.channelOf(x, 93), "0".repeat(93));
        CHECKS.same("noise(1, 1000)", x.noise(1, 1000), 93);
        CHECKS.sameText("channel", Checks.channelOf(x, 93), "1".repeat(93));
        CHECKS.sameText("message after noise", Checks.messageOf(x, 63), "0".repeat(63));
    }

    private static void promise14Syndrome() {
        NoisyCodes told = Checks.begun(19, 2, 1);
        told.burst(3, 2);
        CHECKS.same("syndrome(0, 1)", told.syndrome(0, 1), 11);
        CHECKS.same("syndrome(0, 3)", told.syndrome(0, 3), 5);
        for (int p : Checks.PRIMITIVE) {
            for (int t = 1; t <= 3; t++) {
                for (int seed = 1; seed < 6; seed++) {
                    syndromesOfNoise(p, t, seed);
                }
            }
        }
    }

    private static void syndromesOfNoise(int p, int t, int seed) {
        NoisyCodes x = Checks.begun(p, t, 3);
        x.noise(seed, 400);
        int n = x.length();
        for (int w = 0; w < 3; w++) {
            int word = 0;
            for (int i = 0; i < n; i++) {
                word |= x.bit(i * 3 + w) << i;
            }
            for (int j = 1; j <= 2 * t; j++) {
                CHECKS.same("syndrome(" + w + ", " + j + ") by " + p, x.syndrome(w, j),
                        PlainCodes.value(word, PlainCodes.raised(j, p), p));
            }
        }
    }

    private static void promise14WrongInputs() {
        NoisyCodes x = Checks.begun(37, 3, 2);
        int[][] wrong = {{-1, 1}, {2, 1}, {3, 6}, {0, 0}, {0, 7}, {1, -1}, {1, Integer.MAX_VALUE}, {1, Integer.MIN_VALUE},
            {Integer.MIN_VALUE, 1}, {Integer.MAX_VALUE, 1}};
        for (int[] row : wrong) {
            CHECKS.throwsOnly("syndrome(" + row[0] + ", " + row[1] + ")", INDEX, () -> x.syndrome(row[0], row[1]));
        }
        CHECKS.answers("syndrome(1, 6)", 0, () -> x.syndrome(1, 6));
        NoisyCodes y = Checks.begun(37, 1, 4);
        CHECKS.answers("syndrome(3, 2)", 0, () -> y.syndrome(3, 2));
        CHECKS.throwsOnly("syndrome(3, 3)", INDEX, () -> y.syndrome(3, 3));
        CHECKS.throwsOnly("syndrome(4, 2)", INDEX, () -> y.syndrome(4, 2));
    }
}
