import java.util.HashMap;
import java.util.Map;

/** The document once more, as plainly and slowly as it can be said: what NoisyCodes is held against. */
final class PlainCodes {
    private static final Map<Integer, Integer> GENERATORS = new HashMap<>();

    private boolean begun = false;
    private int polynomial;
    private int m;
    private int n;
    private int t;
    private int d;
    private int k;
    private int g;
    private int[] message;
    private int[] channel;
    private int[][] kept;

    static int degree(int polynomial) {
        for (int i = 31; i >= 0; i--) {
            if ((polynomial >>> i & 1) == 1) {
                return i;
            }
        }
        return -1;
    }

    static int multiply(int a, int b, int polynomial) {
        int product = 0;
        for (int i = 0; i < 5; i++) {
            if ((b >> i & 1) == 1) {
                product ^= a << i;
            }
        }
        return remainder(product, polynomial);
    }

    static int remainder(int dividend, int divisor) {
        int rest = dividend;
        while (degree(rest) >= degree(divisor)) {
            rest ^= divisor << (degree(rest) - degree(divisor));
        }
        return rest;
    }

    static boolean primitive(int polynomial) {
        int n = (1 << degree(polynomial)) - 1;
        int element = 1;
        int first = 0;
        for (int e = 1; e <= n && first == 0; e++) {
            element = multiply(element, 2, polynomial);
            if (element == 1) {
                first = e;
            }
        }
        return first == n;
    }

    /** Horner's rule, from the highest coefficient down. */
    static int value(int word, int element, int polynomial) {
        int sum = 0;
        for (int i = 30; i >= 0; i--) {
            sum = multiply(sum, element, polynomial) ^ (word >> i & 1);
        }
        return sum;
    }

    static int raised(int e, int polynomial) {
        int element = 1;
        for (int i = 0; i < e; i++) {
            element = multiply(element, 2, polynomial);
        }
        return element;
    }

    /** The least number is the polynomial of the least degree. */
    static int leastGenerator(int polynomial, int t) {
        return GENERATORS.computeIfAbsent(polynomial * 4 + t, key -> {
            int candidate = 1;
            while (!zeroAtPowers(candidate, polynomial, t)) {
                candidate++;
            }
            return candidate;
        });
    }

    static boolean zeroAtPowers(int word, int polynomial, int t) {
        for (int j = 1; j <= 2 * t; j++) {
            if (value(word, raised(j, polynomial), polynomial) != 0) {
                return false;
            }
        }
        return true;
    }

    /** Tries every set of at most t places; -1 if there is no codeword so near. */
    static int nearest(int word, int n, int t, int generator) {
        if (remainder(word, generator) == 0) {
            return word;
        }
        for (int a = 0; a < n; a++) {
            for (int b = a; b < (t > 1 ? n : a + 1); b++) {
                for (int c = b; c < (t > 2 ? n : b + 1); c++) {
                    int tried = word ^ (1 << a | 1 << b | 1 << c);
                    if (remainder(tried, generator) == 0) {
                        return tried;
                    }
                }
            }
        }
        return -1;
    }

    int begin(int polynomial, int t, int depth) {
        int degree = degree(polynomial);
        if (t < 1 || t > 3 || depth < 1 || depth > 4 || degree < 3 || degree > 5) {
            throw new IllegalArgumentException();
        }
        if (!primitive(polynomial)) {
            throw new ArithmeticException();
        }
        begun = true;
        this.polynomial = polynomial;
        this.t = t;
        d = depth;
        m = degree;
        n = (1 << m) - 1;
        g = leastGenerator(polynomial, t);
        k = n - degree(g);
        message = new int[d * k];
        channel = new int[d * n];
        kept = new int[4][d * n];
        return k;
    }

    int length() {
        state();
        return n;
    }

    int generator() {
        state();
        return g;
    }

    int power(int e) {
        state();
        argument(e >= 0);
        return raised(e % n, polynomial);
    }

    int log(int element) {
        state();
        argument(element > 0 && element < 1 << m);
        int e = 0;
        while (raised(e, polynomial) != element) {
            e++;
        }
        return e;
    }

    int times(int a, int b) {
        state();
        argument(a >= 0 && a < 1 << m && b >= 0 && b < 1 << m);
        return multiply(a, b, polynomial);
    }

    int put(int i, int b) {
        state();
        index(i >= 0 && i < message.length);
        argument(b == 0 || b == 1);
        message[i] = b;
        return 0;
    }

    int get(int i) {
        state();
        index(i >= 0 && i < message.length);
        return message[i];
    }

    int encode() {
        state();
        int ones = 0;
        for (int w = 0; w < d; w++) {
            int high = 0;
            for (int i = 0; i < k; i++) {
                high |= message[w * k + i] << (n - k + i);
            }
            int word = high ^ remainder(high, g);
            write(channel, w, word);
            ones += Integer.bitCount(word);
        }
        return ones;
    }

    int bit(int i) {
        state();
        index(i >= 0 && i < channel.length);
        return channel[i];
    }

    int burst(int i, int many) {
        state();
        index(i >= 0 && i < channel.length && (long) i + many <= channel.length);
        argument(many >= 1 && many <= 124);
        for (int j = i; j < i + many; j++) {
            channel[j] = 1 - channel[j];
        }
        return 0;
    }

    int noise(int seed, int rate) {
        state();
        argument(rate >= 0 && rate <= 1000);
        int x = seed;
        int flips = 0;
        for (int i = 0; i < channel.length; i++) {
            x = x * 1103515245 + 12345;
            if ((x >>> 16) % 1000 < rate) {
                channel[i] = 1 - channel[i];
                flips++;
            }
        }
        return flips;
    }

    int syndrome(int w, int j) {
        state();
        index(w >= 0 && w < d && j >= 1 && j <= 2 * t);
        return value(read(channel, w), raised(j, polynomial), polynomial);
    }

    int decode(int way) {
        state();
        argument(way >= 0 && way <= 2);
        return mend(channel);
    }

    int save(int slot) {
        state();
        index(slot >= 0 && slot <= 3);
        kept[slot] = channel.clone();
        return 0;
    }

    int load(int slot) {
        state();
        index(slot >= 0 && slot <= 3);
        int flips = mend(kept[slot]);
        kept[slot] = channel.clone();
        return flips;
    }

    private int mend(int[] received) {
        int[] words = new int[d];
        for (int w = 0; w < d; w++) {
            words[w] = nearest(read(received, w), n, t, g);
            if (words[w] < 0) {
                throw new ArithmeticException();
            }
        }
        int[] before = received.clone();
        for (int w = 0; w < d; w++) {
            write(channel, w, words[w]);
            for (int i = 0; i < k; i++) {
                message[w * k + i] = words[w] >> (n - k + i) & 1;
            }
        }
        int flips = 0;
        for (int i = 0; i < before.length; i++) {
            flips += before[i] ^ channel[i];
        }
        return flips;
    }

    private int read(int[] bits, int w) {
        int word = 0;
        for (int i = 0; i < n; i++) {
            word |= bits[i * d + w] << i;
        }
        return word;
    }

    private void write(int[] bits, int w, int word) {
        for (int i = 0; i < n; i++) {
            bits[i * d + w] = word >> i & 1;
        }
    }

    int messageBits() {
        return begun ? message.length : 0;
    }

    int channelBits() {
        return begun ? channel.length : 0;
    }

    private void state() {
        if (!begun) {
            throw new IllegalStateException();
        }
    }

    private static void argument(boolean fine) {
        if (!fine) {
            throw new IllegalArgumentException();
        }
    }

    private static void index(boolean fine) {
        if (!fine) {
            throw new IndexOutOfBoundsException();
        }
    }
}
