import java.nio.charset.StandardCharsets;

/** What the tests share: counting, feeding texts, and asking for an answer with its status. */
final class Check {
    private static int asked = 0;
    private static int wrong = 0;

    private Check() {
    }

    static void due(String what, long got, long want) {
        asked++;
        if (got != want) {
            wrong++;
            System.out.println(what + ": got " + got + ", due is " + want);
        }
    }

    static void due(String what, boolean got, boolean want) {
        due(what, got ? 1 : 0, want ? 1 : 0);
    }

    /** An answer that comes with STATUS 0. */
    static void fine(StiltMarsh x, String what, long got, long want) {
        due(what, got, want);
        due(what + ", status", x.status(), 0);
    }

    static void fine(StiltMarsh x, String what, boolean got) {
        fine(x, what, got ? 1 : 0, 1);
    }

    /** A call that is refused with a STATUS. */
    static void refused(StiltMarsh x, String what, long got, int status) {
        due(what, got, StiltMarsh.NONE);
        due(what + ", status", x.status(), status);
    }

    static void refused(StiltMarsh x, String what, boolean got, int status) {
        due(what, got, false);
        due(what + ", status", x.status(), status);
    }

    static int feed(StiltMarsh x, String text) {
        return feed(x, text.getBytes(StandardCharsets.ISO_8859_1));
    }

    /** Feeds bytes, filled up with 0 to a multiple of twenty: how many the tape has. */
    static int feed(StiltMarsh x, byte[] bytes) {
        int has = 0;
        for (int i = 0; i < bytes.length; i += 20) {
            int[] v = new int[5];
            for (int k = 0; k < 20; k++) {
                int b = i + k < bytes.length ? bytes[i + k] & 255 : 0;
                v[k / 4] |= b << (24 - 8 * (k % 4));
            }
            has = x.feed(v[0], v[1], v[2], v[3], v[4]);
        }
        return has;
    }

    static StiltMarsh marsh(String text) {
        StiltMarsh x = new StiltMarsh();
        feed(x, text);
        int walkers = x.marsh(text.length());
        due("marsh is taken: " + text, walkers >= 0 && x.status() == 0, true);
        return x;
    }

    static void mornings(StiltMarsh x, String text, int steps) {
        feed(x, text);
        fine(x, "mornings: " + text, x.mornings(text.length()), steps);
    }

    static void badMarsh(StiltMarsh x, String text, int fault, int place) {
        feed(x, text);
        refused(x, "marsh: " + text, x.marsh(text.length()), 9);
        due("fault(0) of " + text, x.fault(0), fault);
        due("fault(1) of " + text, x.fault(1), place);
    }

    static void badMornings(StiltMarsh x, String text, int fault, int place) {
        feed(x, text);
        refused(x, "mornings: " + text, x.mornings(text.length()), 9);
        due("fault(0) of " + text, x.fault(0), fault);
        due("fault(1) of " + text, x.fault(1), place);
    }

    static void close(String name) {
        System.out.println(name + ": " + asked + " answers asked, " + wrong + " wrong");
        if (wrong != 0 || asked == 0) {
            System.exit(1);
        }
    }
}
