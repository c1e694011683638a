/** The edges that promises 15 to 17 name, each sentence in a method of its own. */
public final class MendEdgesTest {
    private static final Checks CHECKS = new Checks();
    private static final Class<IllegalArgumentException> ARGUMENT = IllegalArgumentException.class;
    private static final Class<IndexOutOfBoundsException> INDEX = IndexOutOfBoundsException.class;
    private static final Class<ArithmeticException> ARITHMETIC = ArithmeticException.class;
    private static final int LEAST = Integer.MIN_VALUE;
    private static final int MOST = Integer.MAX_VALUE;

    public static void main(String[] args) {
        for (Scene scene : Scene.ALL) {
            Twins twins = Twins.of(CHECKS, scene);
            Twins spoilt = Twins.ofSpoilt(CHECKS, scene);
            waysBelow0OrAbove2AreRefused(twins);
            waysBelow0OrAbove2AreRefused(spoilt);
            whatCannotBeMendedIsRefused(spoilt);
            slotsBelow0OrAbove3AreRefused(twins);
            slotsBelow0OrAbove3AreRefused(spoilt);
            loadOfWhatCannotBeMendedIsRefused(twins);
            loadOfWhatCannotBeMendedIsRefused(spoilt);
            for (int way = 0; way < 3; way++) {
                nothingWrongIsMendedBy0(scene, way);
                allOnesAreMendedBy0(scene, way);
                asManyErrorsAsMayBe(scene, way);
                oneErrorTooManyInOneWord(scene, way);
                decodeLeavesTheSlots(scene, way);
                messageBecomesThatOfTheChannel(scene, way);
            }
            everySlotKeepsItsOwn(scene);
            saveLeavesChannelAndMessage(scene);
            saveAgainTakesTheNewer(scene);
            slotsAreApartFromTheChannel(scene);
            emptySlotsAre0(scene);
            loadMendsAsManyErrorsAsMayBe(scene);
            slotKeepsItMended(scene);
            loadLeavesTheOtherSlots(scene);
            refusedSlotCanBeSavedOver(scene);
        }
        threeWrongOfSeven();
        CHECKS.end("MendEdgesTest");
    }

    /** Promise 15: "way is none of these", and before ArithmeticException where both would do. */
    private static void waysBelow0OrAbove2AreRefused(Twins twins) {
        for (int way : new int[] {-1, 3, -2, 4, LEAST, MOST}) {
            twins.refuse("decode(" + way + ")", ARGUMENT, x -> x.decode(way));
        }
    }

    /** Promise 15: "some word has no such codeword"; Terms: "nothing changes". */
    private static void whatCannotBeMendedIsRefused(Twins spoilt) {
        for (int way = 0; way < 3; way++) {
            int by = way;
            spoilt.refuse("decode(" + way + ")", ARITHMETIC, x -> x.decode(by));
        }
    }

    /** Promises 16 and 17: "slot is none of these", "slot is not 0 .. 3". */
    private static void slotsBelow0OrAbove3AreRefused(Twins twins) {
        for (int slot : new int[] {-1, 4, -2, 5, LEAST, MOST}) {
            twins.refuse("save(" + slot + ")", INDEX, x -> x.save(slot));
            twins.refuse("load(" + slot + ")", INDEX, x -> x.load(slot));
        }
    }

    /** Promise 17: "some word has no such codeword (and channel and message are as they were)". */
    private static void loadOfWhatCannotBeMendedIsRefused(Twins twins) {
        twins.refuse("load(2)", ARITHMETIC, x -> x.load(2));
    }

    private static void nothingWrongIsMendedBy0(Scene scene, int way) {
        NoisyCodes x = scene.begun();
        CHECKS.answers("decode(" + way + ") of nothing " + scene, 0, () -> x.decode(way));
        holds(x, scene, "0".repeat(scene.messageBits()), "0".repeat(scene.channelBits()));
        NoisyCodes y = filled(scene);
        String message = Checks.messageOf(y, scene.messageBits());
        String channel = Checks.channelOf(y, scene.channelBits());
        CHECKS.answers("decode(" + way + ") of codewords " + scene, 0, () -> y.decode(way));
        holds(y, scene, message, channel);
    }

    private static void allOnesAreMendedBy0(Scene scene, int way) {
        NoisyCodes x = scene.begun();
        x.burst(0, scene.channelBits());
        CHECKS.answers("decode(" + way + ") of ones " + scene, 0, () -> x.decode(way));
        holds(x, scene, "1".repeat(scene.messageBits()), "1".repeat(scene.channelBits()));
    }

    /** Terms: "differs from it in at most t coefficients": t in every word, at the low and at the high end. */
    private static void asManyErrorsAsMayBe(Scene scene, int way) {
        int many = scene.t * scene.depth;
        for (int from : new int[] {0, 1, scene.channelBits() / 2, scene.channelBits() - many}) {
            NoisyCodes x = filled(scene);
            String message = Checks.messageOf(x, scene.messageBits());
            String channel = Checks.channelOf(x, scene.channelBits());
            x.burst(from, many);
            x.put(0, 1 - x.get(0));
            CHECKS.answers("decode(" + way + ") of a burst from " + from + " " + scene, many, () -> x.decode(way));
            holds(x, scene, message, channel);
        }
        NoisyCodes ends = filled(scene);
        String message = Checks.messageOf(ends, scene.messageBits());
        String channel = Checks.channelOf(ends, scene.channelBits());
        ends.burst(0, scene.depth);
        ends.burst(scene.channelBits() - scene.depth, scene.depth);
        CHECKS.answers("decode(" + way + ") of both ends " + scene, 2 * scene.depth, () -> ends.decode(way));
        holds(ends, scene, message, channel);
    }

    /** Terms: "if some word has none, nothing changes", whichever word it is, and with others that could be mended. */
    private static void oneErrorTooManyInOneWord(Scene scene, int way) {
        for (int w = 0; w < scene.depth; w++) {
            int bad = w;
            Twins twins = new Twins(CHECKS, "with the bad word " + w + " " + scene, x -> {
                scene.play(x);
                x.encode();
                for (int other = 0; other < scene.depth; other++) {
                    if (other != bad) {
                        x.burst(6 * scene.depth + other, 1);
                    }
                }
                scene.spoil(x, bad);
                x.put(0, 1);
            });
            twins.refuse("decode(" + way + ")", ARITHMETIC, x -> x.decode(way));
        }
    }

    private static void decodeLeavesTheSlots(Scene scene, int way) {
        NoisyCodes x = new NoisyCodes();
        scene.play(x);
        CHECKS.answers("decode(" + way + ") " + scene, 1, () -> x.decode(way));
        CHECKS.answers("load(1) after decode " + scene, scene.t * scene.depth, () -> x.load(1));
        CHECKS.throwsOnly("load(2) after decode " + scene, ARITHMETIC, () -> x.load(2));
        CHECKS.answers("load(3) after decode " + scene, 0, () -> x.load(3));
        holds(x, scene, "0".repeat(scene.messageBits()), "0".repeat(scene.channelBits()));
    }

    /** Terms: "and the message that of these words", even where no bit of the channel was wrong. */
    private static void messageBecomesThatOfTheChannel(Scene scene, int way) {
        NoisyCodes x = filled(scene);
        String message = Checks.messageOf(x, scene.messageBits());
        for (int i = 0; i < scene.messageBits(); i++) {
            x.put(i, 1 - x.get(i));
        }
        CHECKS.answers("decode(" + way + ") " + scene, 0, () -> x.decode(way));
        CHECKS.sameText("message after it", Checks.messageOf(x, scene.messageBits()), message);
    }

    /** Promise 16: slots 0 .. 3; the first and the last are no others. */
    private static void everySlotKeepsItsOwn(Scene scene) {
        for (int slot = 0; slot < 4; slot++) {
            int from = slot;
            NoisyCodes due = scene.begun();
            encodeFor(due, scene, slot);
            NoisyCodes x = scene.begun();
            for (int into = 0; into < 4; into++) {
                encodeFor(x, scene, into);
                x.save(into);
            }
            x.noise(1, 500);
            CHECKS.answers("load of another slot " + scene, 0, () -> x.load(3 - from));
            CHECKS.answers("load(" + slot + ") " + scene, 0, () -> x.load(from));
            holds(x, scene, Checks.messageOf(due, scene.messageBits()), Checks.channelOf(due, scene.channelBits()));
        }
    }

    private static void encodeFor(NoisyCodes x, Scene scene, int slot) {
        x.put(0, slot % 2);
        x.put(scene.messageBits() - 1, slot / 2);
        x.encode();
    }

    /** Promise 16: what cannot be mended is kept all the same, and as it is. */
    private static void saveLeavesChannelAndMessage(Scene scene) {
        for (int slot = 0; slot < 4; slot++) {
            NoisyCodes x = new NoisyCodes();
            scene.playSpoilt(x);
            String message = Checks.messageOf(x, scene.messageBits());
            String channel = Checks.channelOf(x, scene.channelBits());
            x.save(slot);
            holds(x, scene, message, channel);
            int from = slot;
            CHECKS.throwsOnly("load(" + slot + ") of what is spoilt " + scene, ARITHMETIC, () -> x.load(from));
        }
    }

    private static void saveAgainTakesTheNewer(Scene scene) {
        for (int slot = 0; slot < 4; slot++) {
            int from = slot;
            NoisyCodes x = filled(scene);
            x.save(slot);
            x.burst(0, scene.depth);
            x.save(slot);
            CHECKS.answers("load(" + slot + ") of the newer " + scene, scene.depth, () -> x.load(from));
        }
    }

    /** Promise 16: a slot keeps the channel of then; neither follows the other. */
    private static void slotsAreApartFromTheChannel(Scene scene) {
        NoisyCodes x = filled(scene);
        // The texts are a second object's, since both looks with them would be too many calls for one.
        NoisyCodes due = filled(scene);
        String message = Checks.messageOf(due, scene.messageBits());
        String channel = Checks.channelOf(due, scene.channelBits());
        x.save(0);
        x.burst(0, scene.channelBits());
        CHECKS.answers("load(0) " + scene, 0, () -> x.load(0));
        holds(x, scene, message, channel);
        x.burst(0, 1);
        CHECKS.answers("load(0) after a burst " + scene, 0, () -> x.load(0));
        holds(x, scene, message, channel);
    }

    /** Promises 2 and 17: a slot into which nothing was saved keeps 0. */
    private static void emptySlotsAre0(Scene scene) {
        for (int slot = 0; slot < 4; slot++) {
            int from = slot;
            NoisyCodes x = filled(scene);
            x.burst(0, 1);
            CHECKS.answers("load(" + slot + ") of nothing " + scene, 0, () -> x.load(from));
            holds(x, scene, "0".repeat(scene.messageBits()), "0".repeat(scene.channelBits()));
        }
    }

    /** Promise 17: t errors in every word; what the channel holds meanwhile does not count. */
    private static void loadMendsAsManyErrorsAsMayBe(Scene scene) {
        NoisyCodes x = filled(scene);
        String message = Checks.messageOf(x, scene.messageBits());
        String channel = Checks.channelOf(x, scene.channelBits());
        int many = scene.t * scene.depth;
        x.burst(scene.channelBits() - many, many);
        x.save(3);
        x.burst(scene.channelBits() - many, many);
        scene.spoil(x, 0);
        x.put(0, 1 - x.get(0));
        CHECKS.answers("load(3) " + scene, many, () -> x.load(3));
        holds(x, scene, message, channel);
    }

    /** Promise 17: "the slot keeps it mended". */
    private static void slotKeepsItMended(Scene scene) {
        NoisyCodes x = filled(scene);
        String message = Checks.messageOf(x, scene.messageBits());
        String channel = Checks.channelOf(x, scene.channelBits());
        x.burst(0, scene.depth);
        x.save(1);
        CHECKS.answers("load(1) " + scene, scene.depth, () -> x.load(1));
        x.burst(0, scene.channelBits());
        CHECKS.answers("load(1) again " + scene, 0, () -> x.load(1));
        holds(x, scene, message, channel);
    }

    private static void loadLeavesTheOtherSlots(Scene scene) {
        for (int slot = 0; slot < 4; slot++) {
            NoisyCodes x = filled(scene);
            x.burst(0, scene.depth);
            for (int into = 0; into < 4; into++) {
                x.save(into);
            }
            x.load(slot);
            for (int other = 0; other < 4; other++) {
                int from = other;
                CHECKS.answers("load(" + other + ") after load(" + slot + ") " + scene, other == slot ? 0 : scene.depth,
                        () -> x.load(from));
            }
        }
    }

    /** Promise 17: a refused slot keeps what it kept until it is saved over. */
    private static void refusedSlotCanBeSavedOver(Scene scene) {
        NoisyCodes x = new NoisyCodes();
        scene.play(x);
        CHECKS.throwsOnly("load(2) " + scene, ARITHMETIC, () -> x.load(2));
        CHECKS.throwsOnly("load(2) again " + scene, ARITHMETIC, () -> x.load(2));
        x.save(2);
        CHECKS.answers("load(2) of a newer channel " + scene, 1, () -> x.load(2));
    }

    /** The codes of length 7 for 2 and for 3 errors have the same words: 0 alone and 1 alone. */
    private static void threeWrongOfSeven() {
        for (int word = 0; word < 128; word++) {
            int ones = Integer.bitCount(word);
            for (int way = 0; way < 3; way++) {
                int by = way;
                NoisyCodes two = Checks.begun(13, 2, 1);
                NoisyCodes three = Checks.begun(13, 3, 1);
                Checks.flipWord(two, word);
                Checks.flipWord(three, word);
                CHECKS.answers("decode(" + way + ") of " + word + " for 3", Math.min(ones, 7 - ones), () -> three.decode(by));
                CHECKS.same("get(0)", three.get(0), ones > 3 ? 1 : 0);
                if (ones == 3 || ones == 4) {
                    CHECKS.throwsOnly("decode(" + way + ") of " + word + " for 2", ARITHMETIC, () -> two.decode(by));
                } else {
                    CHECKS.answers("decode(" + way + ") of " + word + " for 2", Math.min(ones, 7 - ones), () -> two.decode(by));
                }
            }
        }
    }

    private static NoisyCodes filled(Scene scene) {
        NoisyCodes x = scene.begun();
        for (int i = 0; i < scene.messageBits(); i += 2) {
            x.put(i, 1);
        }
        x.encode();
        return x;
    }

    private static void holds(NoisyCodes x, Scene scene, String message, String channel) {
        CHECKS.sameText("message " + scene, Checks.messageOf(x, scene.messageBits()), message);
        CHECKS.sameText("channel " + scene, Checks.channelOf(x, scene.channelBits()), channel);
    }
}
