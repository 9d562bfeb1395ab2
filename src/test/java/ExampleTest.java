import java.nio.charset.StandardCharsets;
import java.nio.file.Path;

/** The example of README.md, just as it stands there; run it from the project's folder. */
public final class ExampleTest {
    public static void main(String[] args) {
        readmeHasTheExample();
        example();
        Check.end("ExampleTest");
    }

    /** What README.md has as code stands below, line by line; a comment there is the answer that is due. */
    private static void readmeHasTheExample() {
        String own = bare(Check.read(Path.of("src/test/java/ExampleTest.java")));
        String readme = Check.read(Path.of("README.md"));
        int begin = readme.indexOf("```java") + 7;
        int end = readme.indexOf("```", begin);
        Check.due("README.md has an example", true, begin >= 7 && end > begin);
        for (String line : readme.substring(begin, Math.max(begin, end)).split("\n")) {
            String code = line.replaceAll("//.*", "").trim();
            String answer = line.contains("//") ? line.replaceAll(".*// (\\S+).*", "$1") : "";
            boolean asked = !answer.isEmpty() && code.endsWith(";");
            String call = code.replaceAll(";$", "");
            String due = asked ? "Check.due(\"" + call + "\", " + answer + ", " + call + ");" : code;
            Check.due("it stands here, too: " + line, true, own.contains(bare(due)));
        }
    }

    private static String bare(String text) {
        return text.replaceAll("\\s+", " ").trim();
    }

    private static void example() {
        PromenadeRing ring = new PromenadeRing();
        tell(ring, "long 60; walker at 0 pace 7; walker at 10 pace 3 black; shelter at 12 seats 1; mist 40");
        Check.due("ring.promenade()", 1, ring.promenade());
        tell(ring, "slow 2 if black and misty; stop if gap < 2");
        Check.due("ring.law()", 2, ring.law());
        Check.due("ring.walker(0, 9)", 10, ring.walker(0, 9));
        Check.due("ring.up(0, 1)", 2, ring.up(0, 1));
        Check.due("ring.hours(4)", 1, ring.hours(4));
        Check.due("ring.log(0, 3)", 13, ring.log(0, 3));
        Check.due("ring.walker(0, 0)", 28, ring.walker(0, 0));
        Check.due("ring.undo()", true, ring.undo());
        Check.due("ring.walker(0, 0)", 0, ring.walker(0, 0));
    }

    static void tell(PromenadeRing ring, String text) {
        byte[] bytes = text.getBytes(StandardCharsets.ISO_8859_1);
        int[] words = new int[(bytes.length + 19) / 20 * 5];
        for (int i = 0; i < bytes.length; i++) {
            words[i / 4] |= (bytes[i] & 255) << 24 - i % 4 * 8;
        }
        for (int i = 0; i < words.length; i += 5) {
            ring.feed(words[i], words[i + 1], words[i + 2], words[i + 3], words[i + 4]);
        }
        ring.end(bytes.length);
    }
}
