/** A NoisyCodes and the plain model, called side by side; the calls are numbered as in the document's face. */
final class Pair {
    static final int BEGIN = 0;
    static final int POWER = 3;
    static final int LOG = 4;
    static final int TIMES = 5;
    static final int PUT = 6;
    static final int GET = 7;
    static final int ENCODE = 8;
    static final int BIT = 9;
    static final int BURST = 10;
    static final int NOISE = 11;
    static final int SYNDROME = 12;
    static final int DECODE = 13;
    static final int SAVE = 14;
    static final int LOAD = 15;
    static final int CALLS = 16;

    private static final String[] NAMES = {"begin", "length", "generator", "power", "log", "times", "put", "get", "encode",
        "bit", "burst", "noise", "syndrome", "decode", "save", "load"};

    final PlainCodes plain = new PlainCodes();
    private final NoisyCodes codes = new NoisyCodes();
    private final Checks checks;
    private final String where;
    private final StringBuilder told = new StringBuilder();

    Pair(Checks checks, String where) {
        this.checks = checks;
        this.where = where;
    }

    void call(int kind, int a, int b, int c) {
        String got = outcome(() -> onCodes(kind, a, b, c));
        String due = outcome(() -> onPlain(kind, a, b, c));
        told.append(' ').append(NAMES[kind]).append('(').append(a).append(", ").append(b).append(", ").append(c).append(')');
        checks.sameText(got.equals(due) ? where : where + ":" + told, got, due);
    }

    void sameWords() {
        for (int i = 0; i < plain.messageBits(); i++) {
            call(GET, i, 0, 0);
        }
        for (int i = 0; i < plain.channelBits(); i++) {
            call(BIT, i, 0, 0);
        }
    }

    private static String outcome(Checks.Call call) {
        try {
            return Long.toString(call.answer());
        } catch (RuntimeException e) {
            return Checks.shown(e);
        }
    }

    private long onCodes(int kind, int a, int b, int c) {
        switch (kind) {
            case BEGIN: return codes.begin(a, b, c);
            case 1: return codes.length();
            case 2: return codes.generator();
            case POWER: return codes.power(a);
            case LOG: return codes.log(a);
            case TIMES: return codes.times(a, b);
            case PUT: codes.put(a, b); return 0;
            case GET: return codes.get(a);
            case ENCODE: return codes.encode();
            case BIT: return codes.bit(a);
            case BURST: codes.burst(a, b); return 0;
            case NOISE: return codes.noise(a, b);
            case SYNDROME: return codes.syndrome(a, b);
            case DECODE: return codes.decode(a);
            case SAVE: codes.save(a); return 0;
            default: return codes.load(a);
        }
    }

    private long onPlain(int kind, int a, int b, int c) {
        switch (kind) {
            case BEGIN: return plain.begin(a, b, c);
            case 1: return plain.length();
            case 2: return plain.generator();
            case POWER: return plain.power(a);
            case LOG: return plain.log(a);
            case TIMES: return plain.times(a, b);
            case PUT: return plain.put(a, b);
            case GET: return plain.get(a);
            case ENCODE: return plain.encode();
            case BIT: return plain.bit(a);
            case BURST: return plain.burst(a, b);
            case NOISE: return plain.noise(a, b);
            case SYNDROME: return plain.syndrome(a, b);
            case DECODE: return plain.decode(a);
            case SAVE: return plain.save(a);
            default: return plain.load(a);
        }
    }
}
