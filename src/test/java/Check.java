import java.nio.charset.StandardCharsets;

/** Compares answers with those that are due, and ends a test with exit code 1 if one was wrong. */
final class Check {
    private static final int MOST_PRINTED = 20;

    private int compared = 0;
    private int wrong = 0;
    private String sentence = "";
    private int comparedBefore = 0;
    private int sentences = 0;

    /** What the document says, of which the next answers are; each sentence needs one at least. */
    void about(String itsSentence) {
        endSentence();
        sentence = itsSentence;
        comparedBefore = compared;
        sentences++;
    }

    private void endSentence() {
        if (!sentence.isEmpty() && compared == comparedBefore) {
            tell("no answer was compared");
        }
    }

    void same(String call, long got, long due) {
        compared++;
        if (got != due) {
            tell(call + " answered " + got + ", due is " + due);
        }
    }

    void same(String call, boolean got, boolean due) {
        compared++;
        if (got != due) {
            tell(call + " answered " + got + ", due is " + due);
        }
    }

    void sameDouble(String call, double got, double due) {
        compared++;
        if (Double.compare(got, due) != 0) {
            tell(call + " answered " + got + ", due is " + due);
        }
    }

    void sameText(String call, String got, String due) {
        compared++;
        if (!got.equals(due)) {
            tell(call + " answered " + got + ", due is " + due);
        }
    }

    /** A list is told to a new object, whose tape is empty behind it. */
    void error(String text, int error, int at) {
        TunnelLeggers x = new TunnelLeggers();
        tape(x, text);
        same("teach() of " + text, x.teach(), error);
        same("errorAt() of " + text, x.errorAt(), at);
        same("count(13) behind teach()", x.count(13), 0);
    }

    void right(String text) {
        error(text, 0, -1);
    }

    /** The error is at the sign ^, which is not part of the list. */
    void wrong(int error, String text) {
        error(text.replace("^", ""), error, text.indexOf('^'));
    }

    /** The call must throw just this exception, and leave the object as it was. */
    void refused(TunnelLeggers x, String call, Class<?> due, Runnable body) {
        long before = x.digest();
        int errorAt = x.errorAt();
        String got = "nothing";
        try {
            body.run();
        } catch (RuntimeException e) {
            got = e.getClass().getSimpleName();
        }
        sameText(call + " throws", got, due.getSimpleName());
        same("digest() behind " + call, x.digest(), before);
        same("errorAt() behind " + call, x.errorAt(), errorAt);
    }

    void outOfBounds(TunnelLeggers x, String call, Runnable body) {
        refused(x, call, IndexOutOfBoundsException.class, body);
    }

    void illegal(TunnelLeggers x, String call, Runnable body) {
        refused(x, call, IllegalArgumentException.class, body);
    }

    private void tell(String line) {
        wrong++;
        if (wrong <= MOST_PRINTED) {
            System.out.println(sentence.isEmpty() ? line : "\"" + sentence + "\": " + line);
        }
    }

    void end() {
        endSentence();
        String of = sentences == 0 ? "" : " of " + sentences + " sentences";
        System.out.println(compared + " answers" + of + " compared, " + wrong + " of them wrong");
        if (wrong > 0 || compared == 0) {
            System.exit(1);
        }
    }

    /** Puts a text on the tape, in place of what is there. */
    static void tape(TunnelLeggers x, String text) {
        byte[] bytes = text.getBytes(StandardCharsets.ISO_8859_1);
        x.trim(0);
        for (int from = 0; from < bytes.length; from += 20) {
            x.feed(word(bytes, from), word(bytes, from + 4), word(bytes, from + 8), word(bytes, from + 12),
                word(bytes, from + 16));
        }
        x.trim(bytes.length);
    }

    static int word(byte[] bytes, int from) {
        int word = 0;
        for (int i = from; i < from + 4; i++) {
            word = word << 8 | (i < bytes.length ? bytes[i] & 255 : ' ');
        }
        return word;
    }

    /** Whether a test of an order holds in the last of so many minutes of a new object. */
    static boolean holds(String list, String test, int minutes) {
        String last = "minute = " + (minutes - 1);
        TunnelLeggers x = taught(list + "whistle east when " + last + " and [" + test + "]; whistle west when " + last + ";");
        x.pass(minutes);
        return x.count(1) == 1;
    }

    static TunnelLeggers taught(String text) {
        TunnelLeggers x = new TunnelLeggers();
        tape(x, text);
        int error = x.teach();
        if (error != 0) {
            throw new IllegalArgumentException("error " + error + " at " + x.errorAt() + ": " + text);
        }
        return x;
    }
}
