/** Counts what the tests find; each test class makes one and ends with it. */
final class Checks {
    interface Call {
        long answer();
    }

    interface Act {
        void run();
    }

    static final int[] PRIMITIVE = {11, 13, 19, 25, 37, 41, 47, 55, 59, 61};

    private int passed = 0;
    private int failed = 0;

    void same(String what, long got, long due) {
        if (got == due) {
            passed++;
        } else {
            failed++;
            System.out.println(what + " answered " + got + ", due is " + due);
        }
    }

    void answers(String what, long due, Call call) {
        try {
            same(what, call.answer(), due);
        } catch (RuntimeException e) {
            failed++;
            System.out.println(what + " threw " + e.getClass().getSimpleName() + ", due is " + due);
        }
    }

    /** The very class, so that no subclass slips through; one that Java threw by itself (a division by 0) bears a text. */
    static String shown(RuntimeException thrown) {
        String name = thrown.getClass().getName();
        return thrown.getMessage() == null ? name : name + " by itself: " + thrown.getMessage();
    }

    void throwsOnly(String what, Class<? extends RuntimeException> due, Act act) {
        String got = "nothing";
        try {
            act.run();
        } catch (RuntimeException e) {
            got = shown(e);
        }
        if (got.equals(due.getName())) {
            passed++;
        } else {
            failed++;
            System.out.println(what + " threw " + got + ", due is " + due.getName());
        }
    }

    void end(String name) {
        System.out.println(name + ": " + passed + " passed, " + failed + " failed");
        if (failed > 0) {
            System.exit(1);
        }
    }

    static NoisyCodes begun(int polynomial, int t, int depth) {
        NoisyCodes codes = new NoisyCodes();
        codes.begin(polynomial, t, depth);
        return codes;
    }

    /** Flips the channel's bits that are 1 in a word; on a new channel of depth 1 this sets it. */
    static void flipWord(NoisyCodes codes, int word) {
        for (int i = 0; i < 31; i++) {
            if ((word >>> i & 1) == 1) {
                codes.burst(i, 1);
            }
        }
    }

    static String channelOf(NoisyCodes codes, int bits) {
        StringBuilder text = new StringBuilder();
        for (int i = 0; i < bits; i++) {
            text.append(codes.bit(i));
        }
        return text.toString();
    }

    static String messageOf(NoisyCodes codes, int bits) {
        StringBuilder text = new StringBuilder();
        for (int i = 0; i < bits; i++) {
            text.append(codes.get(i));
        }
        return text.toString();
    }

    void sameText(String what, String got, String due) {
        if (got.equals(due)) {
            passed++;
        } else {
            failed++;
            System.out.println(what + " was " + got + ", due is " + due);
        }
    }
}
