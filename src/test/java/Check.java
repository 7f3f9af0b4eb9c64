import java.nio.charset.StandardCharsets;

/** Compares answers with those that are due, and ends a test with exit code 1 if one was wrong. */
final class Check {
    private static final int MOST_PRINTED = 20;

    private int compared = 0;
    private int wrong = 0;

    void same(String call, long got, long due) {
        compared++;
        if (got != due) {
            tell(call + " answered " + got + ", due is " + due);
        }
    }

    void same(String call, boolean got, boolean due) {
        compared++;
        if (got != due) {
            tell(call + " answered " + got + ", due is " + due);
        }
    }

    void sameDouble(String call, double got, double due) {
        compared++;
        if (Double.compare(got, due) != 0) {
            tell(call + " answered " + got + ", due is " + due);
        }
    }

    void sameText(String call, String got, String due) {
        compared++;
        if (!got.equals(due)) {
            tell(call + " answered " + got + ", due is " + due);
        }
    }

    /** The call must throw just this exception, and leave the object as it was. */
    void refused(TunnelLeggers x, String call, Class<?> due, Runnable body) {
        long before = x.digest();
        String got = "nothing";
        try {
            body.run();
        } catch (RuntimeException e) {
            got = e.getClass().getSimpleName();
        }
        sameText(call + " throws", got, due.getSimpleName());
        same("digest() behind " + call, x.digest(), before);
    }

    void outOfBounds(TunnelLeggers x, String call, Runnable body) {
        refused(x, call, IndexOutOfBoundsException.class, body);
    }

    void illegal(TunnelLeggers x, String call, Runnable body) {
        refused(x, call, IllegalArgumentException.class, body);
    }

    private void tell(String line) {
        wrong++;
        if (wrong <= MOST_PRINTED) {
            System.out.println(line);
        }
    }

    void end() {
        System.out.println(compared + " answers compared, " + wrong + " of them wrong");
        if (wrong > 0 || compared == 0) {
            System.exit(1);
        }
    }

    /** Puts a text on the tape, in place of what is there. */
    static void tape(TunnelLeggers x, String text) {
        byte[] bytes = text.getBytes(StandardCharsets.ISO_8859_1);
        x.trim(0);
        for (int from = 0; from < bytes.length; from += 20) {
            x.feed(word(bytes, from), word(bytes, from + 4), word(bytes, from + 8), word(bytes, from + 12),
                word(bytes, from + 16));
        }
        x.trim(bytes.length);
    }

    static int word(byte[] bytes, int from) {
        int word = 0;
        for (int i = from; i < from + 4; i++) {
            word = word << 8 | (i < bytes.length ? bytes[i] & 255 : ' ');
        }
        return word;
    }

    static TunnelLeggers taught(String text) {
        TunnelLeggers x = new TunnelLeggers();
        tape(x, text);
        int error = x.teach();
        if (error != 0) {
            throw new IllegalArgumentException("error " + error + " at " + x.errorAt() + ": " + text);
        }
        return x;
    }
}
