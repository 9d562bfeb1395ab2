import java.nio.charset.StandardCharsets;

/** What the tests share: answers that are due, exceptions that are due, and bytes for the TAPE. */
final class Check {
    interface Call {
        Object answer();
    }

    private static int wrong = 0;
    private static int asked = 0;

    private Check() {
    }

    static void due(String what, int want, int got) {
        asked++;
        if (got != want) {
            wrong++;
            System.out.println(what + " answered " + got + ", due is " + want);
        }
    }

    static void due(String what, boolean want, boolean got) {
        due(what, want ? 1 : 0, got ? 1 : 0);
    }

    static void due(String what, String want, String got) {
        asked++;
        if (!want.equals(got)) {
            wrong++;
            System.out.println(what + " answered " + got + ", due is " + want);
        }
    }

    static void index(String what, Call call) {
        due(what, "IndexOutOfBoundsException", outcome(call));
    }

    static void argument(String what, Call call) {
        due(what, "IllegalArgumentException", outcome(call));
    }

    static void state(String what, Call call) {
        due(what, "IllegalStateException", outcome(call));
    }

    static void element(String what, Call call) {
        due(what, "NoSuchElementException", outcome(call));
    }

    static void unsupported(String what, Call call) {
        due(what, "UnsupportedOperationException", outcome(call));
    }

    /** The answer, or the name of what was thrown. */
    static String outcome(Call call) {
        try {
            return String.valueOf(call.answer());
        } catch (RuntimeException thrown) {
            return thrown.getClass().getSimpleName();
        }
    }

    static void put(PromenadeRing ring, byte[] bytes) {
        ring.end(0);
        for (int i = 0; i < bytes.length; i += 20) {
            ring.feed(word(bytes, i), word(bytes, i + 4), word(bytes, i + 8), word(bytes, i + 12), word(bytes, i + 16));
        }
        due("the TAPE is cut to " + bytes.length, true, ring.end(bytes.length));
    }

    static int word(byte[] bytes, int from) {
        int word = 0;
        for (int i = from; i < from + 4; i++) {
            word = word << 8 | (i < bytes.length ? bytes[i] & 255 : 0);
        }
        return word;
    }

    static void put(PromenadeRing ring, int... bytes) {
        byte[] row = new byte[bytes.length];
        for (int i = 0; i < bytes.length; i++) {
            row[i] = (byte) bytes[i];
        }
        put(ring, row);
    }

    static int promenade(PromenadeRing ring, String text) {
        put(ring, text.getBytes(StandardCharsets.ISO_8859_1));
        return ring.promenade();
    }

    static int law(PromenadeRing ring, String text) {
        put(ring, text.getBytes(StandardCharsets.ISO_8859_1));
        return ring.law();
    }

    static PromenadeRing ring(String text) {
        PromenadeRing ring = new PromenadeRing();
        promenade(ring, text);
        return ring;
    }

    static void wrongPromenade(PromenadeRing ring, String text, int fault) {
        argument("promenade \"" + text + "\"", () -> promenade(ring, text));
        due("fault of \"" + text + "\"", fault, ring.fault());
    }

    static void wrongLaw(PromenadeRing ring, String text, int fault) {
        argument("law \"" + text + "\"", () -> law(ring, text));
        due("fault of \"" + text + "\"", fault, ring.fault());
    }

    static void end(String name) {
        System.out.println(name + ": " + asked + " answers, " + wrong + " wrong");
        if (wrong != 0) {
            System.exit(1);
        }
    }
}
