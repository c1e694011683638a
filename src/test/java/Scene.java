/** A busy object that can be made again at will, with the sizes that are due for its code. */
final class Scene {
    /** The narrowest code, one between, the widest; no codeword is near a word that is wrong at the places of bad. */
    static final Scene NARROW = new Scene(11, 2, 1, 7, 1, 0, 3, 5);
    static final Scene MIDDLE = new Scene(19, 2, 3, 15, 7, 0, 1, 5);
    static final Scene WIDE = new Scene(37, 3, 4, 31, 16, 0, 1, 2, 3);
    static final Scene[] ALL = {NARROW, MIDDLE, WIDE};

    final int polynomial;
    final int t;
    final int depth;
    final int n;
    final int k;
    private final int[] bad;

    private Scene(int polynomial, int t, int depth, int n, int k, int... bad) {
        this.polynomial = polynomial;
        this.t = t;
        this.depth = depth;
        this.n = n;
        this.k = k;
        this.bad = bad;
    }

    int messageBits() {
        return depth * k;
    }

    int channelBits() {
        return depth * n;
    }

    NoisyCodes begun() {
        return Checks.begun(polynomial, t, depth);
    }

    /** Slot 0 keeps codewords, 1 words with t errors each, 2 what cannot be mended, 3 nothing; the message was changed since. */
    void play(NoisyCodes x) {
        x.begin(polynomial, t, depth);
        for (int i = 0; i < messageBits(); i += 3) {
            x.put(i, 1);
        }
        x.encode();
        x.save(0);
        x.burst(0, t * depth);
        x.save(1);
        x.burst(0, t * depth);
        spoil(x, depth - 1);
        x.save(2);
        spoil(x, depth - 1);
        x.burst(channelBits() - 1, 1);
        x.put(0, 0);
    }

    void playSpoilt(NoisyCodes x) {
        play(x);
        x.burst(channelBits() - 1, 1);
        spoil(x, 0);
    }

    /** A codeword in word w becomes one that cannot be mended; a second time it becomes the codeword again. */
    void spoil(NoisyCodes x, int w) {
        for (int place : bad) {
            x.burst(place * depth + w, 1);
        }
    }

    public String toString() {
        return "by " + polynomial + " for " + t + " with depth " + depth;
    }
}
