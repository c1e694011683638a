/** Holds an object after a call against a twin that had the same calls but this one. */
final class Twins {
    interface Play {
        void on(NoisyCodes codes);
    }

    interface Reading {
        long of(NoisyCodes codes);
    }

    private static final int LOOKS = 9;

    private final Checks checks;
    private final String name;
    private final Play play;
    private final String[] untouched = new String[LOOKS];

    Twins(Checks checks, String name, Play play) {
        this.checks = checks;
        this.name = name;
        this.play = play;
        for (int look = 0; look < LOOKS; look++) {
            untouched[look] = seen(played(), look);
        }
    }

    static Twins of(Checks checks, Scene scene) {
        return new Twins(checks, scene.toString(), scene::play);
    }

    static Twins ofSpoilt(Checks checks, Scene scene) {
        return new Twins(checks, scene + ", spoilt", scene::playSpoilt);
    }

    NoisyCodes played() {
        NoisyCodes codes = new NoisyCodes();
        play.on(codes);
        return codes;
    }

    /** Each look has an object of its own, as most looks change what they look at. */
    void refuse(String call, Class<? extends RuntimeException> due, Play act) {
        for (int look = 0; look < LOOKS; look++) {
            NoisyCodes codes = played();
            checks.throwsOnly(call + " " + name, due, () -> act.on(codes));
            checks.sameText("look " + look + " after " + call + " " + name, seen(codes, look), untouched[look]);
        }
    }

    /** A call that answers and changes nothing. */
    void read(String call, long due, Reading reading) {
        for (int look = 0; look < LOOKS; look++) {
            NoisyCodes codes = played();
            checks.answers(call + " " + name, due, () -> reading.of(codes));
            checks.sameText("look " + look + " after " + call + " " + name, seen(codes, look), untouched[look]);
        }
    }

    private static String seen(NoisyCodes codes, int look) {
        StringBuilder text = new StringBuilder();
        if (look == 0) {
            tellField(text, codes);
        } else if (look == 1) {
            add(text, codes::encode);
        } else if (look < 5) {
            add(text, () -> codes.decode(look - 2));
        } else {
            add(text, () -> codes.load(look - 5));
        }
        tellWords(text, codes);
        return text.toString();
    }

    private static void tellField(StringBuilder text, NoisyCodes codes) {
        add(text, codes::length);
        add(text, codes::generator);
        for (int i = 0; i < 34; i++) {
            int e = i;
            add(text, () -> codes.power(e));
            add(text, () -> codes.log(e));
            add(text, () -> codes.times(e, 3));
        }
        for (int w = 0; w < 5; w++) {
            for (int j = 0; j < 8; j++) {
                int word = w;
                int power = j;
                add(text, () -> codes.syndrome(word, power));
            }
        }
    }

    /** Message and channel up to the first bit that is refused, so that their sizes are seen too. */
    private static void tellWords(StringBuilder text, NoisyCodes codes) {
        boolean more = true;
        for (int i = 0; more && i < 126; i++) {
            int place = i;
            more = add(text, () -> codes.get(place));
        }
        more = true;
        for (int i = 0; more && i < 126; i++) {
            int place = i;
            more = add(text, () -> codes.bit(place));
        }
    }

    private static boolean add(StringBuilder text, Checks.Call call) {
        try {
            text.append(' ').append(call.answer());
            return true;
        } catch (RuntimeException e) {
            text.append(' ').append(Checks.shown(e));
            return false;
        }
    }
}
