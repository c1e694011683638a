import java.util.Arrays;

/** A laboratory for binary codes that mend up to three wrong bits a word. */
public final class NoisyCodes {
    private static final int MOST_DEPTH = 4;
    private static final int MOST_ERRORS = 3;
    private static final int MOST_DEGREE = 5;
    private static final int MOST_LENGTH = 31;
    private static final int MOST_CHECK_BITS = 15;
    private static final int MOST_CHANNEL_BITS = MOST_DEPTH * MOST_LENGTH;
    private static final int SLOTS = 4;
    private static final int WAYS = 3;
    private static final int FULL_RATE = 1000;
    // One place for each power of x from 0 to 2 t; syndrome j stands at j.
    private static final int ROW = 2 * MOST_ERRORS + 1;
    // Words have at most 31 bits, so no word is negative.
    private static final int NO_WORD = -1;
    private static final int NOT_MENDED = -1;

    private final BlockCode code;
    private final Field field;
    private final Mender mender;
    private final int[] message;
    private final int[] channel;
    private final int[] mended;
    private final int[][] kept;
    // Places in the channel are divided by it, so it is never 0, even before a code was begun.
    private int depth;
    private boolean begun;

    public NoisyCodes() {
        code = new BlockCode();
        field = code.field;
        mender = new Mender();
        message = new int[MOST_DEPTH];
        channel = new int[MOST_DEPTH];
        mended = new int[MOST_DEPTH];
        kept = new int[SLOTS][MOST_DEPTH];
        depth = 1;
        begun = false;
    }

    public int begin(int polynomial, int t, int depth) throws IllegalArgumentException, ArithmeticException {
        if (t < 1 || t > MOST_ERRORS || depth < 1 || depth > MOST_DEPTH || !Field.hasRightDegree(polynomial)) {
            throw new IllegalArgumentException();
        }
        if (!Field.isPrimitive(polynomial)) {
            throw new ArithmeticException();
        }
        field.makeFrom(polynomial);
        code.makeFor(t);
        this.depth = depth;
        clearWords();
        begun = true;
        return code.messageBits;
    }

    public int length() throws IllegalStateException {
        requireCode();
        return field.order;
    }

    public int generator() throws IllegalStateException {
        requireCode();
        return code.divisor;
    }

    public int power(int e) throws IllegalStateException, IllegalArgumentException {
        requireCode();
        if (e < 0) {
            throw new IllegalArgumentException();
        }
        return field.raised(e);
    }

    public int log(int element) throws IllegalStateException, IllegalArgumentException {
        requireCode();
        if (element == 0 || !field.holds(element)) {
            throw new IllegalArgumentException();
        }
        return field.logs[element];
    }

    public int times(int a, int b) throws IllegalStateException, IllegalArgumentException {
        requireCode();
        if (!field.holds(a) || !field.holds(b)) {
            throw new IllegalArgumentException();
        }
        return field.product(a, b);
    }

    public void put(int i, int b) throws IllegalStateException, IndexOutOfBoundsException, IllegalArgumentException {
        requireCode();
        requireIndex(i, depth * code.messageBits);
        if (b != 0 && b != 1) {
            throw new IllegalArgumentException();
        }
        int word = i / code.messageBits;
        int place = i % code.messageBits;
        message[word] = message[word] & ~(1 << place) | b << place;
    }

    public int get(int i) throws IllegalStateException, IndexOutOfBoundsException {
        requireCode();
        requireIndex(i, depth * code.messageBits);
        return message[i / code.messageBits] >>> (i % code.messageBits) & 1;
    }

    public int encode() throws IllegalStateException {
        requireCode();
        int ones = 0;
        for (int w = 0; w < depth; w++) {
            channel[w] = code.codewordOf(message[w]);
            ones += Integer.bitCount(channel[w]);
        }
        return ones;
    }

    public int bit(int i) throws IllegalStateException, IndexOutOfBoundsException {
        requireCode();
        requireIndex(i, channelBits());
        return channel[i % depth] >>> (i / depth) & 1;
    }

    public void burst(int i, int many) throws IllegalStateException, IndexOutOfBoundsException, IllegalArgumentException {
        requireCode();
        int size = channelBits();
        requireIndex(i, size);
        if (many > size - i) {
            throw new IndexOutOfBoundsException();
        }
        if (many < 1 || many > MOST_CHANNEL_BITS) {
            throw new IllegalArgumentException();
        }
        for (int j = 0; j < many; j++) {
            flip(i + j);
        }
    }

    public int noise(int seed, int rate) throws IllegalStateException, IllegalArgumentException {
        requireCode();
        if (rate < 0 || rate > FULL_RATE) {
            throw new IllegalArgumentException();
        }
        int x = seed;
        int flips = 0;
        int size = channelBits();
        for (int i = 0; i < size; i++) {
            x = x * 1103515245 + 12345;
            if ((x >>> 16) % FULL_RATE < rate) {
                flip(i);
                flips++;
            }
        }
        return flips;
    }

    public int syndrome(int w, int j) throws IllegalStateException, IndexOutOfBoundsException {
        requireCode();
        requireIndex(w, depth);
        if (j < 1 || j > 2 * code.errors) {
            throw new IndexOutOfBoundsException();
        }
        return code.valueAtPower(channel[w], j);
    }

    public int decode(int way) throws IllegalStateException, IllegalArgumentException, ArithmeticException {
        requireCode();
        if (way < 0 || way >= WAYS) {
            throw new IllegalArgumentException();
        }
        int flips = mend(channel, way);
        if (flips == NOT_MENDED) {
            throw new ArithmeticException();
        }
        takeMended();
        return flips;
    }

    public void save(int slot) throws IllegalStateException, IndexOutOfBoundsException {
        requireCode();
        requireIndex(slot, SLOTS);
        System.arraycopy(channel, 0, kept[slot], 0, MOST_DEPTH);
    }

    public int load(int slot) throws IllegalStateException, IndexOutOfBoundsException, ArithmeticException {
        requireCode();
        requireIndex(slot, SLOTS);
        int flips = mend(kept[slot], 0);
        if (flips == NOT_MENDED) {
            throw new ArithmeticException();
        }
        takeMended();
        System.arraycopy(mended, 0, kept[slot], 0, MOST_DEPTH);
        return flips;
    }

    private void requireCode() {
        if (!begun) {
            throw new IllegalStateException();
        }
    }

    private static void requireIndex(int i, int size) {
        if (i < 0 || i >= size) {
            throw new IndexOutOfBoundsException();
        }
    }

    private int channelBits() {
        return depth * field.order;
    }

    private void flip(int i) {
        channel[i % depth] ^= 1 << (i / depth);
    }

    // Words beyond the depth are cleared too: an earlier code may have been deeper.
    private void clearWords() {
        Arrays.fill(message, 0);
        Arrays.fill(channel, 0);
        Arrays.fill(mended, 0);
        for (int slot = 0; slot < SLOTS; slot++) {
            Arrays.fill(kept[slot], 0);
        }
    }

    // Works on a row apart, so that nothing has changed when a late word cannot be mended.
    private int mend(int[] received, int way) {
        int flips = 0;
        for (int w = 0; w < depth; w++) {
            int word = mender.nearestCodeword(code, received[w], way);
            if (word == NO_WORD) {
                return NOT_MENDED;
            }
            mended[w] = word;
            flips += Integer.bitCount(word ^ received[w]);
        }
        return flips;
    }

    private void takeMended() {
        for (int w = 0; w < depth; w++) {
            channel[w] = mended[w];
            message[w] = code.messageOf(mended[w]);
        }
    }

    /** The field of a primitive polynomial, as tables of its powers and logs. */
    private static final class Field {
        private final int[] powers;
        private final int[] logs;
        // Sums of logs are divided by it, so it is never 0.
        private int order;

        Field() {
            powers = new int[MOST_LENGTH];
            logs = new int[MOST_LENGTH + 1];
            order = 1;
        }

        static boolean hasRightDegree(int polynomial) {
            return polynomial >= 8 && polynomial < 64;
        }

        static boolean isPrimitive(int polynomial) {
            int last = orderFor(polynomial);
            int element = 1;
            for (int e = 1; e < last; e++) {
                element = timesX(element, polynomial);
                if (element == 1) {
                    return false;
                }
            }
            return timesX(element, polynomial) == 1;
        }

        void makeFrom(int polynomial) {
            order = orderFor(polynomial);
            int element = 1;
            for (int e = 0; e < order; e++) {
                powers[e] = element;
                logs[element] = e;
                element = timesX(element, polynomial);
            }
        }

        boolean holds(int element) {
            return element >= 0 && element <= order;
        }

        int raised(int e) {
            return powers[e % order];
        }

        int product(int a, int b) {
            return a == 0 || b == 0 ? 0 : powers[(logs[a] + logs[b]) % order];
        }

        // By 0 it is 0: the locator that comes of that is refused when it is tried.
        int quotient(int a, int b) {
            return a == 0 || b == 0 ? 0 : powers[(logs[a] + order - logs[b]) % order];
        }

        private static int orderFor(int polynomial) {
            return polynomial < 16 ? 7 : polynomial < 32 ? 15 : 31;
        }

        private static int timesX(int element, int polynomial) {
            int shifted = element << 1;
            return shifted > orderFor(polynomial) ? shifted ^ polynomial : shifted;
        }
    }

    /** The code of a generator over the field; a word is an int whose bit i is coefficient i. */
    private static final class BlockCode {
        private final Field field;
        private final int[] factors;
        private int errors;
        private int divisor;
        private int checkBits;
        // Places in the message are divided by it, so it is never 0.
        private int messageBits;

        BlockCode() {
            field = new Field();
            factors = new int[MOST_CHECK_BITS + 1];
            errors = 1;
            divisor = 1;
            checkBits = 0;
            messageBits = 1;
        }

        void makeFor(int t) {
            int roots = rootsFor(t);
            errors = t;
            divisor = polynomialOf(roots);
            checkBits = Integer.bitCount(roots);
            messageBits = field.order - checkBits;
        }

        int codewordOf(int messageWord) {
            int shifted = messageWord << checkBits;
            return shifted | remainderOf(shifted);
        }

        int messageOf(int codeword) {
            return codeword >>> checkBits;
        }

        boolean isCodeword(int word) {
            return remainderOf(word) == 0;
        }

        int valueAtPower(int word, int e) {
            int sum = 0;
            for (int i = 0; i < field.order; i++) {
                if ((word >>> i & 1) == 1) {
                    sum ^= field.raised(i * e);
                }
            }
            return sum;
        }

        // Over 0 and 1, a polynomial that is 0 at an element is 0 at its square too.
        private int rootsFor(int t) {
            int roots = 0;
            for (int j = 1; j <= 2 * t; j++) {
                int e = j;
                for (int squarings = 0; squarings < MOST_DEGREE; squarings++) {
                    roots |= 1 << e;
                    e = 2 * e % field.order;
                }
            }
            return roots;
        }

        private int polynomialOf(int roots) {
            Arrays.fill(factors, 0);
            factors[0] = 1;
            for (int e = 0; e < field.order; e++) {
                if ((roots >>> e & 1) == 1) {
                    multiplyByRoot(field.raised(e));
                }
            }
            int bits = 0;
            for (int i = 0; i < factors.length; i++) {
                bits |= (factors[i] & 1) << i;
            }
            return bits;
        }

        private void multiplyByRoot(int root) {
            for (int i = factors.length - 1; i > 0; i--) {
                factors[i] = factors[i - 1] ^ field.product(root, factors[i]);
            }
            factors[0] = field.product(root, factors[0]);
        }

        private int remainderOf(int word) {
            int rest = word;
            for (int i = field.order - 1; i >= checkBits; i--) {
                if ((rest >>> i & 1) == 1) {
                    rest ^= divisor << (i - checkBits);
                }
            }
            return rest;
        }
    }

    /** Finds the codeword near a received word, by the locator that a way makes of its syndromes. */
    private static final class Mender {
        private final Way[] ways;
        private final int[] syndromes;
        private final int[] locator;

        Mender() {
            ways = new Way[WAYS];
            ways[0] = new Formulas();
            ways[1] = new ShiftRegister();
            ways[2] = new Division();
            syndromes = new int[ROW];
            locator = new int[ROW];
        }

        int nearestCodeword(BlockCode code, int word, int way) {
            if (code.isCodeword(word)) {
                return word;
            }
            for (int j = 1; j <= 2 * code.errors; j++) {
                syndromes[j] = code.valueAtPower(word, j);
            }
            Arrays.fill(locator, 0);
            ways[way].locate(code.field, syndromes, code.errors, locator);
            int places = placesOfErrors(code.field);
            // With too many errors a way makes a locator all the same: only the trial tells.
            boolean near = Integer.bitCount(places) <= code.errors && code.isCodeword(word ^ places);
            return near ? word ^ places : NO_WORD;
        }

        // An error at place i makes the locator 0 at the power -i.
        private int placesOfErrors(Field field) {
            int places = 0;
            for (int i = 0; i < field.order; i++) {
                if (locatorAtPower(field, field.order - i) == 0) {
                    places |= 1 << i;
                }
            }
            return places;
        }

        private int locatorAtPower(Field field, int e) {
            int sum = 0;
            for (int i = 0; i < ROW; i++) {
                sum ^= field.product(locator[i], field.raised(i * e));
            }
            return sum;
        }
    }

    /** A way from the syndromes to the locator, the polynomial whose roots tell the places of the errors. */
    private abstract static class Way {
        /** Fills the locator, which is all 0 before; it is right if there are at most t errors. */
        abstract void locate(Field field, int[] syndromes, int t, int[] locator);

        static void addShifted(Field field, int[] sum, int[] row, int factor, int shift) {
            for (int i = shift; i < ROW; i++) {
                sum[i] ^= field.product(factor, row[i - shift]);
            }
        }
    }

    /** Peterson's way: the equations between syndromes and locator, solved beforehand. */
    private static final class Formulas extends Way {
        void locate(Field field, int[] syndromes, int t, int[] locator) {
            int first = syndromes[1];
            int square = field.product(first, first);
            locator[0] = 1;
            locator[1] = first;
            if (t == 1) {
                return;
            }
            int excess = field.product(square, first) ^ syndromes[3];
            if (t == 2) {
                locator[2] = field.quotient(excess, first);
            } else if (excess != 0) {
                locator[2] = field.quotient(field.product(square, syndromes[3]) ^ syndromes[5], excess);
                locator[3] = excess ^ field.product(first, locator[2]);
            }
        }
    }

    /** The way of Berlekamp and Massey: the shortest shift register that puts out the syndromes. */
    private static final class ShiftRegister extends Way {
        private final int[] earlier;
        private final int[] spare;

        ShiftRegister() {
            earlier = new int[ROW];
            spare = new int[ROW];
        }

        void locate(Field field, int[] syndromes, int t, int[] locator) {
            Arrays.fill(earlier, 0);
            earlier[0] = 1;
            locator[0] = 1;
            int stages = 0;
            int shift = 1;
            int earlierGap = 1;
            for (int j = 1; j <= 2 * t; j++) {
                int gap = gapAt(field, j, stages, syndromes, locator);
                if (gap != 0) {
                    System.arraycopy(locator, 0, spare, 0, ROW);
                    addShifted(field, locator, earlier, field.quotient(gap, earlierGap), shift);
                    if (2 * stages < j) {
                        System.arraycopy(spare, 0, earlier, 0, ROW);
                        stages = j - stages;
                        earlierGap = gap;
                        shift = 0;
                    }
                }
                shift++;
            }
        }

        private static int gapAt(Field field, int j, int stages, int[] syndromes, int[] locator) {
            int gap = syndromes[j];
            for (int i = 1; i <= stages && i < j; i++) {
                gap ^= field.product(locator[i], syndromes[j - i]);
            }
            return gap;
        }
    }

    /** Euclid's way: x to the 2 t and the syndromes are divided by turns until the rest is short. */
    private static final class Division extends Way {
        private final int[] firstRest;
        private final int[] secondRest;
        private final int[] firstFactor;
        private final int[] secondFactor;

        Division() {
            firstRest = new int[ROW];
            secondRest = new int[ROW];
            firstFactor = new int[ROW];
            secondFactor = new int[ROW];
        }

        void locate(Field field, int[] syndromes, int t, int[] locator) {
            fillRows(syndromes, t);
            int[] rest = firstRest;
            int[] by = secondRest;
            int[] restFactor = firstFactor;
            int[] byFactor = secondFactor;
            for (int turn = 0; turn < 2 * t && degreeOf(by) >= t; turn++) {
                divide(field, rest, by, restFactor, byFactor);
                int[] swapped = rest;
                rest = by;
                by = swapped;
                swapped = restFactor;
                restFactor = byFactor;
                byFactor = swapped;
            }
            for (int i = 0; i < ROW; i++) {
                locator[i] = field.quotient(byFactor[i], byFactor[0]);
            }
        }

        private void fillRows(int[] syndromes, int t) {
            Arrays.fill(firstRest, 0);
            Arrays.fill(secondRest, 0);
            Arrays.fill(firstFactor, 0);
            Arrays.fill(secondFactor, 0);
            firstRest[2 * t] = 1;
            System.arraycopy(syndromes, 1, secondRest, 0, 2 * t);
            secondFactor[0] = 1;
        }

        private static void divide(Field field, int[] rest, int[] by, int[] restFactor, int[] byFactor) {
            int degree = degreeOf(by);
            for (int i = ROW - 1; i >= degree; i--) {
                int factor = field.quotient(rest[i], by[degree]);
                addShifted(field, rest, by, factor, i - degree);
                addShifted(field, restFactor, byFactor, factor, i - degree);
            }
        }

        private static int degreeOf(int[] row) {
            int degree = 0;
            for (int i = 1; i < ROW; i++) {
                if (row[i] != 0) {
                    degree = i;
                }
            }
            return degree;
        }
    }
}
