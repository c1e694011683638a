import java.util.Random;

/** The section "Terms", sentence by sentence, in every code there is: ten polynomials, three t, four depths. */
public final class TermsTest {
    private static final Checks CHECKS = new Checks();
    private static final Class<IndexOutOfBoundsException> INDEX = IndexOutOfBoundsException.class;

    private final int polynomial;
    private final int t;
    private final int depth;
    private final int n;
    private final int k;
    private final String where;

    private TermsTest(int polynomial, int t, int depth) {
        this.polynomial = polynomial;
        this.t = t;
        this.depth = depth;
        NoisyCodes codes = new NoisyCodes();
        k = codes.begin(polynomial, t, depth);
        n = codes.length();
        where = " by " + polynomial + " for " + t + " with depth " + depth;
    }

    public static void main(String[] args) {
        for (int polynomial : Checks.PRIMITIVE) {
            productsAreReducedByThePolynomial(polynomial);
            powersAre1ForTheFirstTimeAtN(polynomial);
            for (int t = 1; t <= 3; t++) {
                for (int depth = 1; depth <= 4; depth++) {
                    TermsTest test = new TermsTest(polynomial, t, depth);
                    test.messageWordHasWhatTheGeneratorLeaves();
                    test.messageAndChannelHaveTheirSizes();
                    test.messageBitStandsInItsWordAndCoefficient();
                    test.channelBitStandsInItsWordAndCoefficient();
                    test.codewordsHaveNoSyndromesAndDifferInMoreThan2T();
                    test.everyWordIsMendedInAtMostT();
                }
            }
        }
        CHECKS.end("TermsTest");
    }

    /** "added by exclusive-or, multiplied and reduced by P". */
    private static void productsAreReducedByThePolynomial(int polynomial) {
        int n = Checks.begun(polynomial, 1, 1).length();
        for (int a = 0; a <= n; a++) {
            for (int b = 0; b <= n; b++) {
                NoisyCodes x = Checks.begun(polynomial, 1, 1);
                int product = x.times(a, b);
                int shifted = product << 1 > n ? product << 1 ^ polynomial : product << 1;
                CHECKS.same("times(2, times(a, b)) by " + polynomial, x.times(2, product), shifted);
                CHECKS.same("times(b, a) by " + polynomial, x.times(b, a), product);
                for (int c = 1; c <= n; c += c) {
                    CHECKS.same("times(a, b + c) by " + polynomial, x.times(a, b ^ c), product ^ x.times(a, c));
                }
            }
            CHECKS.same("times(1, a) by " + polynomial, Checks.begun(polynomial, 1, 1).times(1, a), a);
        }
    }

    /** "x to the 1, 2, 3, .., are 1 for the first time at n = 2 to the m, less 1"; "every element but 0 is one". */
    private static void powersAre1ForTheFirstTimeAtN(int polynomial) {
        NoisyCodes x = Checks.begun(polynomial, 2, 1);
        int n = x.length();
        CHECKS.same("n is 2 to the m, less 1, by " + polynomial, n, Integer.highestOneBit(polynomial) - 1);
        int element = 1;
        int seen = 0;
        for (int e = 0; e <= n; e++) {
            CHECKS.same("power(" + e + ") by " + polynomial, x.power(e), element);
            CHECKS.same("power " + e + " is 1 by " + polynomial, element == 1 ? 1 : 0, e == 0 || e == n ? 1 : 0);
            CHECKS.same("log of power " + e + " by " + polynomial, x.log(element), e % n);
            seen |= 1 << element;
            element = x.times(element, 2);
        }
        CHECKS.same("elements that are powers by " + polynomial, Integer.bitCount(seen), n);
        CHECKS.same("0 is none of them by " + polynomial, seen & 1, 0);
    }

    /** "k = n - (degree of G)"; G is "1 at its highest coefficient and 0 at each of the powers 1, 2, .. 2 t". */
    private void messageWordHasWhatTheGeneratorLeaves() {
        NoisyCodes x = begun();
        int g = x.generator();
        CHECKS.same("k" + where, k, n - PlainCodes.degree(g));
        for (int i = 0; i < n; i++) {
            if ((g >>> i & 1) == 1) {
                x.burst(i * depth, 1);
            }
        }
        for (int j = 1; j <= 2 * t; j++) {
            CHECKS.same("the generator at power " + j + where, x.syndrome(0, j), 0);
        }
    }

    /** "D words .., D * k bits"; "D * n bits". */
    private void messageAndChannelHaveTheirSizes() {
        NoisyCodes x = begun();
        CHECKS.answers("the message's last bit" + where, 0, () -> x.get(depth * k - 1));
        CHECKS.throwsOnly("the message's bit behind it" + where, INDEX, () -> x.get(depth * k));
        CHECKS.throwsOnly("put behind the message" + where, INDEX, () -> x.put(depth * k, 1));
        CHECKS.answers("the channel's last bit" + where, 0, () -> x.bit(depth * n - 1));
        CHECKS.throwsOnly("the channel's bit behind it" + where, INDEX, () -> x.bit(depth * n));
        CHECKS.throwsOnly("a burst behind the channel" + where, INDEX, () -> x.burst(depth * n, 1));
        CHECKS.same("bits that full noise flips" + where, x.noise(3, 1000), depth * n);
    }

    /** "bit w * k + i is bit i of word w", which is "the coefficient of x to the n - k + i" of "the one codeword". */
    private void messageBitStandsInItsWordAndCoefficient() {
        int g = begun().generator();
        for (int w = 0; w < depth; w++) {
            for (int i = 0; i < k; i++) {
                NoisyCodes x = begun();
                x.put(w * k + i, 1);
                x.encode();
                for (int other = 0; other < depth; other++) {
                    int word = wordOf(x, other);
                    CHECKS.same("high coefficients of word " + other + where, word >>> (n - k), other == w ? 1 << i : 0);
                    CHECKS.same("the generator divides it" + where, PlainCodes.remainder(word, g), 0);
                }
            }
        }
    }

    /** "bit i * D + w is coefficient i of the received word w"; "its values at the powers 1 .. 2 t". */
    private void channelBitStandsInItsWordAndCoefficient() {
        for (int w = 0; w < depth; w++) {
            for (int i = 0; i < n; i++) {
                NoisyCodes x = begun();
                x.burst(i * depth + w, 1);
                for (int other = 0; other < depth; other++) {
                    for (int j = 1; j <= 2 * t; j++) {
                        int due = other == w ? x.power(i * j) : 0;
                        CHECKS.same("syndrome(" + other + ", " + j + ") of one bit" + where, x.syndrome(other, j), due);
                    }
                }
            }
        }
    }

    /** "there is at most one": codewords differ in a codeword, and each but 0 has more than 2 t ones. */
    private void codewordsHaveNoSyndromesAndDifferInMoreThan2T() {
        Random random = new Random(polynomial);
        for (int run = 0; run < 20; run++) {
            NoisyCodes x = encoded(random.nextLong());
            int ones = x.encode();
            int seen = 0;
            for (int w = 0; w < depth; w++) {
                int weight = Integer.bitCount(wordOf(x, w));
                seen += weight;
                CHECKS.same("a codeword of " + weight + " ones" + where, weight == 0 || weight > 2 * t ? 1 : 0, 1);
                for (int j = 1; j <= 2 * t; j++) {
                    CHECKS.same("syndrome(" + w + ", " + j + ") of a codeword" + where, x.syndrome(w, j), 0);
                }
            }
            CHECKS.same("encode()" + where, ones, seen);
        }
    }

    /** "every received word becomes the codeword that differs from it in at most t", "and the message that of these words". */
    private void everyWordIsMendedInAtMostT() {
        Random random = new Random(polynomial + 1);
        for (int run = 0; run < 12; run++) {
            long message = random.nextLong();
            long places = random.nextLong();
            String channel = Checks.channelOf(encoded(message), depth * n);
            NoisyCodes x = encoded(message);
            int errors = flipUpToT(x, places);
            x.put(0, 1 - x.get(0));
            CHECKS.same("decode(" + run % 3 + ")" + where, x.decode(run % 3), errors);
            holds(x, message, channel);
            NoisyCodes y = encoded(message);
            flipUpToT(y, places);
            y.save(run % 4);
            y.burst(0, depth * n);
            y.put(0, 1 - y.get(0));
            CHECKS.same("load(" + run % 4 + ")" + where, y.load(run % 4), errors);
            holds(y, message, channel);
        }
    }

    private int flipUpToT(NoisyCodes x, long seed) {
        Random random = new Random(seed);
        int errors = 0;
        for (int w = 0; w < depth; w++) {
            int places = 0;
            for (int many = random.nextInt(t + 1); many > 0; many--) {
                places |= 1 << random.nextInt(n);
            }
            for (int i = 0; i < n; i++) {
                if ((places >>> i & 1) == 1) {
                    x.burst(i * depth + w, 1);
                    errors++;
                }
            }
        }
        return errors;
    }

    private void holds(NoisyCodes x, long message, String channel) {
        CHECKS.sameText("message" + where, Checks.messageOf(x, depth * k), messageText(message));
        CHECKS.sameText("channel" + where, Checks.channelOf(x, depth * n), channel);
    }

    private NoisyCodes begun() {
        return Checks.begun(polynomial, t, depth);
    }

    private NoisyCodes encoded(long seed) {
        NoisyCodes x = begun();
        String text = messageText(seed);
        for (int i = 0; i < depth * k; i++) {
            x.put(i, text.charAt(i) - '0');
        }
        x.encode();
        return x;
    }

    private String messageText(long seed) {
        Random random = new Random(seed);
        StringBuilder text = new StringBuilder();
        for (int i = 0; i < depth * k; i++) {
            text.append(random.nextInt(2));
        }
        return text.toString();
    }

    private int wordOf(NoisyCodes x, int w) {
        int word = 0;
        for (int i = 0; i < n; i++) {
            word |= x.bit(i * depth + w) << i;
        }
        return word;
    }
}
