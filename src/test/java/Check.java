import java.io.IOException;
import java.io.UncheckedIOException;
import java.nio.charset.StandardCharsets;
import java.nio.file.Files;
import java.nio.file.Path;

/** What the tests share: answers that are due, exceptions that are due, and bytes for the TAPE. */
final class Check {
    interface Call {
        Object answer();
    }

    private static final Path DOCUMENT = Path.of("../shared/DOC.md");

    private static int wrong = 0;
    private static int asked = 0;
    private static String document = "";
    private static String sentence = "";

    private Check() {
    }

    /** All that is asked behind this is of words that stand in the document just so, where the document is at hand. */
    static void says(String words) {
        sentence = "\"" + words + "\": ";
        due("the document has these words", true, document().isEmpty() || document().contains(words));
    }

    /** The document; empty, where it is not at hand. */
    static String document() {
        if (document.isEmpty() && Files.exists(DOCUMENT)) {
            document = read(DOCUMENT);
        }
        return document;
    }

    static String read(Path path) {
        try {
            return Files.readString(path);
        } catch (IOException none) {
            throw new UncheckedIOException(none);
        }
    }

    static void due(String what, int want, int got) {
        due(what, String.valueOf(want), String.valueOf(got));
    }

    static void due(String what, boolean want, boolean got) {
        due(what, want ? 1 : 0, got ? 1 : 0);
    }

    static void due(String what, String want, String got) {
        asked++;
        if (!want.equals(got)) {
            wrong++;
            System.out.println(sentence + what + " answered " + got + ", due is " + want);
        }
    }

    static void nothingThrown(String what, Call call) {
        due(what + " throws", false, outcome(call).endsWith("Exception"));
    }

    static void index(String what, Call call) {
        due(what, "IndexOutOfBoundsException", outcome(call));
    }

    static void argument(String what, Call call) {
        due(what, "IllegalArgumentException", outcome(call));
    }

    static void state(String what, Call call) {
        due(what, "IllegalStateException", outcome(call));
    }

    static void element(String what, Call call) {
        due(what, "NoSuchElementException", outcome(call));
    }

    static void unsupported(String what, Call call) {
        due(what, "UnsupportedOperationException", outcome(call));
    }

    /** The answer, or the name of what was thrown. */
    static String outcome(Call call) {
        try {
            return String.valueOf(call.answer());
        } catch (RuntimeException thrown) {
            return thrown.getClass().getSimpleName();
        }
    }

    static void put(PromenadeRing ring, byte[] bytes) {
        ring.end(0);
        for (int i = 0; i < bytes.length; i += 20) {
            ring.feed(word(bytes, i), word(bytes, i + 4), word(bytes, i + 8), word(bytes, i + 12), word(bytes, i + 16));
        }
        due("the TAPE is cut to " + bytes.length, true, ring.end(bytes.length));
    }

    static int word(byte[] bytes, int from) {
        int word = 0;
        for (int i = from; i < from + 4; i++) {
            word = word << 8 | (i < bytes.length ? bytes[i] & 255 : 0);
        }
        return word;
    }

    static void put(PromenadeRing ring, int... bytes) {
        byte[] row = new byte[bytes.length];
        for (int i = 0; i < bytes.length; i++) {
            row[i] = (byte) bytes[i];
        }
        put(ring, row);
    }

    static int promenade(PromenadeRing ring, String text) {
        put(ring, text.getBytes(StandardCharsets.ISO_8859_1));
        return ring.promenade();
    }

    static int law(PromenadeRing ring, String text) {
        put(ring, text.getBytes(StandardCharsets.ISO_8859_1));
        return ring.law();
    }

    static PromenadeRing ring(String text) {
        PromenadeRing ring = new PromenadeRing();
        promenade(ring, text);
        return ring;
    }

    static void wrongPromenade(PromenadeRing ring, String text, int fault) {
        argument("promenade \"" + text + "\"", () -> promenade(ring, text));
        due("fault of \"" + text + "\"", fault, ring.fault());
    }

    static void wrongLaw(PromenadeRing ring, String text, int fault) {
        argument("law \"" + text + "\"", () -> law(ring, text));
        due("fault of \"" + text + "\"", fault, ring.fault());
    }

    /** A wrong text in which ^ stands ahead of the first wrong byte. */
    static void markedPromenade(PromenadeRing ring, String marked) {
        wrongPromenade(ring, marked.replace("^", ""), marked.indexOf('^'));
    }

    static void markedLaw(PromenadeRing ring, String marked) {
        wrongLaw(ring, marked.replace("^", ""), marked.indexOf('^'));
    }

    /** So many of a LINE, one behind another. */
    static String lines(String line, int n) {
        StringBuilder text = new StringBuilder(line);
        for (int i = 1; i < n; i++) {
            text.append(';').append(line);
        }
        return text.toString();
    }

    static void end(String name) {
        System.out.println(name + ": " + asked + " answers, " + wrong + " wrong");
        if (wrong != 0) {
            System.exit(1);
        }
    }
}
