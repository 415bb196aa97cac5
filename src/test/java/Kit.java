import java.nio.charset.StandardCharsets;

/** What the tests share: feeding texts, and counting what is wrong. */
final class Kit {
    private int wrong;
    private int asked;

    static void feed(OddCancel x, String text) {
        byte[] bytes = text.getBytes(StandardCharsets.ISO_8859_1);
        for (int at = 0; at < bytes.length; at += 20) {
            int[] v = ints(bytes, at);
            x.feed(v[0], v[1], v[2], v[3], v[4]);
        }
    }

    /** Twenty bytes from a place on, 0 behind the last one. */
    static int[] ints(byte[] bytes, int at) {
        int[] v = new int[5];
        for (int k = 0; k < 20; k++) {
            int b = at + k < bytes.length ? bytes[at + k] & 255 : 0;
            v[k / 4] = v[k / 4] << 8 | b;
        }
        return v;
    }

    static int valley(OddCancel x, String text) {
        feed(x, text);
        return x.valley(text.length());
    }

    static int weeks(OddCancel x, String text) {
        feed(x, text);
        return x.weeks(text.length());
    }

    void due(String what, long got, long want) {
        asked++;
        if (got != want) {
            wrong++;
            System.out.println(what + " answered " + got + ", due is " + want);
        }
    }

    void due(String what, boolean got, boolean want) {
        due(what, got ? 1 : 0, want ? 1 : 0);
    }

    /** The answer of a call that is refused, and its STATUS. */
    void refused(String what, OddCancel x, long got, int status) {
        due(what, got, OddCancel.NONE);
        due(what + " status", x.status(), status);
    }

    void refused(String what, OddCancel x, boolean got, int status) {
        due(what, got, false);
        due(what + " status", x.status(), status);
    }

    /** An answer with STATUS 0. */
    void given(String what, OddCancel x, long got, long want) {
        due(what, got, want);
        due(what + " status", x.status(), 0);
    }

    void given(String what, OddCancel x, boolean got) {
        due(what, got, true);
        due(what + " status", x.status(), 0);
    }

    int asked() {
        return asked;
    }

    int wrong() {
        return wrong;
    }

    void end(String name) {
        System.out.println(name + ": " + asked + " asked, " + wrong + " wrong");
        if (wrong != 0 || asked == 0) {
            System.exit(1);
        }
    }
}
