import java.util.Arrays;
import java.util.Random;

/** Promises 15 to 17: decode, save, load. */
public final class MendTest {
    private static final Checks CHECKS = new Checks();
    private static final Class<IllegalArgumentException> ARGUMENT = IllegalArgumentException.class;
    private static final Class<IndexOutOfBoundsException> INDEX = IndexOutOfBoundsException.class;
    private static final Class<ArithmeticException> ARITHMETIC = ArithmeticException.class;

    public static void main(String[] args) {
        promise15EveryShortWord();
        promise15EveryFewErrorsInLongWords();
        promise15EveryRestOfLongWords();
        promise15AnyLongWord();
        promise15AllWordsOrNone();
        promise15WrongInputs();
        promise16SaveKeepsACopy();
        promise17Load();
        promise17LoadNeedsNoMending();
        promise17RefusedChangesNothing();
        promises16And17WrongInputs();
        CHECKS.end("MendTest");
    }

    private static void promise15EveryShortWord() {
        for (int p : new int[] {11, 13, 19, 25}) {
            int n = p < 16 ? 7 : 15;
            for (int t = 1; t <= 3; t++) {
                int g = PlainCodes.leastGenerator(p, t);
                for (int word = 0; word < 1 << n; word++) {
                    int due = PlainCodes.nearest(word, n, t, g);
                    for (int way = 0; way < 3; way++) {
                        mends(p, t, way, word, due);
                    }
                }
            }
        }
    }

    private static void promise15EveryFewErrorsInLongWords() {
        for (int p : new int[] {37, 41, 47, 55, 59, 61}) {
            for (int t = 1; t <= 3; t++) {
                int codeword = 0x5a5a5a5a;
                codeword ^= PlainCodes.remainder(codeword, PlainCodes.leastGenerator(p, t));
                for (int a = 0; a < 31; a++) {
                    for (int b = a; b < (t > 1 ? 31 : a + 1); b++) {
                        for (int c = b; c < (t > 2 ? 31 : b + 1); c++) {
                            for (int way = 0; way < 3; way++) {
                                mends(p, t, way, codeword ^ (1 << a | 1 << b | 1 << c), codeword);
                            }
                        }
                    }
                }
            }
        }
    }

    /**
     * Whether a word can be mended, and where, hangs on what is left when the generator divides it:
     * the words of a lower degree than the generator's stand for all words of length 31.
     */
    private static void promise15EveryRestOfLongWords() {
        for (int p : new int[] {37, 41, 47, 55, 59, 61}) {
            for (int t = 1; t <= 3; t++) {
                int[] due = nearestByRest(PlainCodes.leastGenerator(p, t), t);
                for (int word = 0; word < due.length; word++) {
                    for (int way = 0; way < 3; way++) {
                        mends(p, t, way, word, due[word]);
                    }
                }
            }
        }
    }

    private static int[] nearestByRest(int g, int t) {
        int[] nearest = new int[1 << PlainCodes.degree(g)];
        Arrays.fill(nearest, -1);
        nearest[0] = 0;
        for (int a = 0; a < 31; a++) {
            for (int b = a; b < (t > 1 ? 31 : a + 1); b++) {
                for (int c = b; c < (t > 2 ? 31 : b + 1); c++) {
                    int errors = 1 << a | 1 << b | 1 << c;
                    int rest = PlainCodes.remainder(errors, g);
                    nearest[rest] = rest ^ errors;
                }
            }
        }
        return nearest;
    }

    private static void promise15AnyLongWord() {
        Random random = new Random(1507);
        for (int p : new int[] {37, 41, 47, 55, 59, 61}) {
            for (int t = 1; t <= 3; t++) {
                int g = PlainCodes.leastGenerator(p, t);
                for (int many = 0; many < 300; many++) {
                    int word = random.nextInt() >>> 1;
                    int due = PlainCodes.nearest(word, 31, t, g);
                    for (int way = 0; way < 3; way++) {
                        mends(p, t, way, word, due);
                    }
                }
            }
        }
    }

    /** A due of -1: there is no codeword so near. */
    private static void mends(int p, int t, int way, int word, int due) {
        NoisyCodes x = new NoisyCodes();
        int k = x.begin(p, t, 1);
        int n = x.length();
        Checks.flipWord(x, word);
        String call = "decode(" + way + ") of " + word + " by " + p + " for " + t;
        if (due < 0) {
            CHECKS.throwsOnly(call, ARITHMETIC, () -> x.decode(way));
        } else {
            CHECKS.answers(call, Integer.bitCount(word ^ due), () -> x.decode(way));
        }
        int channel = 0;
        for (int i = 0; i < n; i++) {
            channel |= x.bit(i) << i;
        }
        CHECKS.same("the channel after " + call, channel, due < 0 ? word : due);
        int message = 0;
        for (int i = 0; i < k; i++) {
            message |= x.get(i) << i;
        }
        CHECKS.same("the message after " + call, message, due < 0 ? 0 : due >> (n - k));
    }

    private static void promise15AllWordsOrNone() {
        for (int way = 0; way < 3; way++) {
            int by = way;
            NoisyCodes x = Checks.begun(19, 2, 3);
            for (int i = 0; i < 21; i++) {
                x.put(i, i % 2);
            }
            x.encode();
            String whole = Checks.channelOf(x, 45);
            x.burst(0, 6);
            CHECKS.answers("decode(" + way + ") of a burst", 6, () -> x.decode(by));
            CHECKS.sameText("channel", Checks.channelOf(x, 45), whole);
            CHECKS.sameText("message", Checks.messageOf(x, 21), "010101010101010101010");
            lastWordCannotBeMended(x, way);
        }
    }

    /** Word 0 could be mended; word 2 gets three wrong bits that no codeword is near. */
    private static void lastWordCannotBeMended(NoisyCodes x, int way) {
        x.put(0, 1);
        x.burst(3, 1);
        x.burst(2, 1);
        x.burst(5, 1);
        x.burst(17, 1);
        String channel = Checks.channelOf(x, 45);
        String message = Checks.messageOf(x, 21);
        CHECKS.throwsOnly("decode(" + way + ") with one bad word", ARITHMETIC, () -> x.decode(way));
        CHECKS.sameText("channel", Checks.channelOf(x, 45), channel);
        CHECKS.sameText("message", Checks.messageOf(x, 21), message);
    }

    private static void promise15WrongInputs() {
        NoisyCodes x = Checks.begun(11, 1, 2);
        x.burst(0, 2);
        for (int way : new int[] {-1, 3, Integer.MIN_VALUE, Integer.MAX_VALUE}) {
            CHECKS.throwsOnly("decode(" + way + ")", ARGUMENT, () -> x.decode(way));
        }
        CHECKS.sameText("channel", Checks.channelOf(x, 14), "11000000000000");
        NoisyCodes y = Checks.begun(41, 2, 3);
        y.burst(0, 9);
        CHECKS.throwsOnly("decode(0)", ARITHMETIC, () -> y.decode(0));
        CHECKS.throwsOnly("decode(3) of what cannot be mended", ARGUMENT, () -> y.decode(3));
        CHECKS.sameText("channel", Checks.channelOf(y, 93), "1".repeat(9) + "0".repeat(84));
        messageFollowsTheChannel();
    }

    private static void messageFollowsTheChannel() {
        NoisyCodes x = Checks.begun(11, 3, 1);
        x.put(0, 1);
        CHECKS.same("decode of a channel that was never encoded", x.decode(1), 0);
        CHECKS.same("get(0)", x.get(0), 0);
        x.noise(5, 1000);
        CHECKS.same("decode of all ones", x.decode(2), 0);
        CHECKS.same("get(0)", x.get(0), 1);
    }

    private static void promise16SaveKeepsACopy() {
        NoisyCodes x = Checks.begun(37, 3, 4);
        for (int slot = 0; slot < 4; slot++) {
            x.burst(slot, 1);
            x.save(slot);
        }
        CHECKS.sameText("channel after save", Checks.channelOf(x, 8), "11110000");
        x.burst(0, 124);
        for (int slot = 0; slot < 4; slot++) {
            CHECKS.same("load(" + slot + ")", x.load(slot), slot + 1);
            CHECKS.same("bit(0)", x.bit(0), 0);
        }
    }

    private static void promise17Load() {
        NoisyCodes x = Checks.begun(37, 3, 2);
        for (int i = 0; i < 32; i++) {
            x.put(i, i % 5 == 0 ? 1 : 0);
        }
        x.encode();
        String whole = Checks.channelOf(x, 62);
        String message = Checks.messageOf(x, 32);
        x.burst(20, 6);
        x.save(3);
        x.burst(0, 62);
        x.put(1, 1);
        CHECKS.same("load(3)", x.load(3), 6);
        CHECKS.sameText("channel", Checks.channelOf(x, 62), whole);
        CHECKS.sameText("message", Checks.messageOf(x, 32), message);
        CHECKS.same("load(3): the slot keeps it mended", x.load(3), 0);
        x.burst(0, 2);
        CHECKS.same("load(3): the slot is apart from the channel", x.load(3), 0);
        CHECKS.sameText("channel", Checks.channelOf(x, 62), whole);
        CHECKS.same("load(0): empty slots keep 0", x.load(0), 0);
        CHECKS.sameText("channel", Checks.channelOf(x, 62), "0".repeat(62));
        CHECKS.sameText("message", Checks.messageOf(x, 32), "0".repeat(32));
    }

    private static void promise17LoadNeedsNoMending() {
        NoisyCodes x = Checks.begun(13, 2, 1);
        x.put(0, 1);
        x.encode();
        x.save(0);
        x.put(0, 0);
        x.encode();
        CHECKS.same("load(0)", x.load(0), 0);
        CHECKS.same("get(0)", x.get(0), 1);
        CHECKS.sameText("channel", Checks.channelOf(x, 7), "1111111");
    }

    private static void promise17RefusedChangesNothing() {
        NoisyCodes x = Checks.begun(41, 2, 3);
        x.burst(0, 9);
        x.save(1);
        x.burst(0, 90);
        x.put(7, 1);
        String channel = Checks.channelOf(x, 93);
        CHECKS.throwsOnly("load(1)", ARITHMETIC, () -> x.load(1));
        CHECKS.sameText("channel", Checks.channelOf(x, 93), channel);
        CHECKS.sameText("message", Checks.messageOf(x, 63), "0".repeat(7) + "1" + "0".repeat(55));
        CHECKS.throwsOnly("load(1): the slot keeps what it kept", ARITHMETIC, () -> x.load(1));
    }

    private static void promises16And17WrongInputs() {
        NoisyCodes x = Checks.begun(11, 1, 1);
        x.put(0, 1);
        x.encode();
        for (int slot : new int[] {-1, 4, Integer.MIN_VALUE, Integer.MAX_VALUE}) {
            CHECKS.throwsOnly("save(" + slot + ")", INDEX, () -> x.save(slot));
            CHECKS.throwsOnly("load(" + slot + ")", INDEX, () -> x.load(slot));
        }
        CHECKS.sameText("channel", Checks.channelOf(x, 7), "1101000");
        for (int slot = 0; slot < 4; slot++) {
            CHECKS.same("load(" + slot + ")", x.load(slot), 0);
            CHECKS.sameText("channel", Checks.channelOf(x, 7), "0000000");
        }
    }
}
