import java.util.TreeSet;

/** Every call with every pair of arguments at or beside an edge, in every size of code, beside the plain model. */
public final class GridTest {
    private static final Checks CHECKS = new Checks();
    private static final int[] EDGES = {Integer.MIN_VALUE, Integer.MIN_VALUE + 1, -125, -124, -2, -1, 0, 1, 2, 3, 4, 5, 6, 7,
        8, 15, 16, 31, 32, 63, 64, 124, 125, 999, 1000, 1001, Integer.MAX_VALUE - 1, Integer.MAX_VALUE};
    private static final int[] ONE_ARGUMENT = {Pair.POWER, Pair.LOG, Pair.GET, Pair.BIT, Pair.DECODE, Pair.SAVE, Pair.LOAD};
    private static final int[] TWO_ARGUMENTS = {Pair.TIMES, Pair.PUT, Pair.BURST, Pair.NOISE, Pair.SYNDROME};

    public static void main(String[] args) {
        for (int polynomial : new int[] {13, 25, 61}) {
            for (int t = 1; t <= 3; t++) {
                for (int depth = 1; depth <= 4; depth++) {
                    everyCall(polynomial, t, depth);
                }
            }
        }
        everyBegin();
        CHECKS.end("GridTest");
    }

    private static void everyCall(int polynomial, int t, int depth) {
        TreeSet<Integer> edges = edgesOf(polynomial, t, depth);
        for (int a : edges) {
            for (int kind : ONE_ARGUMENT) {
                oneCall(polynomial, t, depth, kind, a, 0);
            }
            for (int kind : TWO_ARGUMENTS) {
                for (int b : edges) {
                    oneCall(polynomial, t, depth, kind, a, b);
                }
            }
        }
    }

    private static TreeSet<Integer> edgesOf(int polynomial, int t, int depth) {
        TreeSet<Integer> edges = new TreeSet<>();
        for (int edge : EDGES) {
            edges.add(edge);
        }
        NoisyCodes codes = new NoisyCodes();
        int k = codes.begin(polynomial, t, depth);
        int n = codes.length();
        for (int size : new int[] {n, k, depth * n, depth * k}) {
            edges.add(size - 1);
            edges.add(size);
            edges.add(size + 1);
        }
        return edges;
    }

    /** A new pair for each call: the words and a slot are compared after it. */
    private static void oneCall(int polynomial, int t, int depth, int kind, int a, int b) {
        Pair pair = new Pair(CHECKS, "grid");
        pair.call(Pair.BEGIN, polynomial, t, depth);
        pair.call(Pair.PUT, 0, 1, 0);
        pair.call(Pair.PUT, pair.plain.messageBits() - 1, 1, 0);
        pair.call(Pair.ENCODE, 0, 0, 0);
        pair.call(Pair.SAVE, 0, 0, 0);
        pair.call(Pair.BURST, 0, depth, 0);
        pair.call(Pair.SAVE, 3, 0, 0);
        pair.call(Pair.PUT, 0, 0, 0);
        pair.call(kind, a, b, 0);
        pair.sameWords();
        pair.call(Pair.LOAD, 3, 0, 0);
        pair.call(Pair.GET, 0, 0, 0);
    }

    private static void everyBegin() {
        TreeSet<Integer> polynomials = new TreeSet<>();
        for (int edge : EDGES) {
            polynomials.add(edge);
        }
        for (int p = 0; p < 130; p++) {
            polynomials.add(p);
        }
        for (int p : polynomials) {
            for (int t : EDGES) {
                for (int depth : EDGES) {
                    oneBegin(p, t, depth);
                }
            }
        }
    }

    private static void oneBegin(int polynomial, int t, int depth) {
        Pair pair = new Pair(CHECKS, "grid");
        pair.call(Pair.BEGIN, 25, 2, 2);
        pair.call(Pair.PUT, 3, 1, 0);
        pair.call(Pair.BURST, 1, 3, 0);
        pair.call(Pair.BEGIN, polynomial, t, depth);
        pair.call(1, 0, 0, 0);
        pair.call(2, 0, 0, 0);
        pair.call(Pair.GET, 3, 0, 0);
        pair.call(Pair.BIT, 2, 0, 0);
    }
}
