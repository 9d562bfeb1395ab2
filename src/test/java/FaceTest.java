import java.lang.reflect.Constructor;
import java.lang.reflect.Field;
import java.lang.reflect.Method;
import java.lang.reflect.Modifier;
import java.nio.file.Path;
import java.util.ArrayList;
import java.util.Collections;
import java.util.HashSet;
import java.util.List;
import java.util.Set;
import java.util.regex.Matcher;
import java.util.regex.Pattern;

/** The public face, just as the document has it, and nothing else that is not private. */
public final class FaceTest {
    private static final String[] FACE = {
        "int feed(int, int, int, int, int)",
        "boolean end(int)",
        "int promenade() IllegalArgumentException UnsupportedOperationException",
        "int law() IllegalArgumentException",
        "int fault()",
        "int walker(int, int) IndexOutOfBoundsException NoSuchElementException",
        "int shelter(int, int) IndexOutOfBoundsException NoSuchElementException",
        "int gap(int, int) IndexOutOfBoundsException",
        "int hours(int) IllegalArgumentException",
        "int out(int) IllegalArgumentException IllegalStateException",
        "int pace(int, int) IndexOutOfBoundsException IllegalArgumentException",
        "boolean shun(int, int, boolean) IndexOutOfBoundsException IllegalArgumentException",
        "boolean mourn(int, boolean) IndexOutOfBoundsException",
        "int move(int, int) IndexOutOfBoundsException",
        "int lad(int) IndexOutOfBoundsException",
        "int order(int)",
        "int where(int, int) IndexOutOfBoundsException IllegalArgumentException",
        "int up(int, int) IndexOutOfBoundsException IllegalArgumentException",
        "int circle(int, int) IndexOutOfBoundsException IllegalArgumentException",
        "int laps(int, int) IndexOutOfBoundsException IllegalArgumentException",
        "int alone(int, int) IndexOutOfBoundsException",
        "int both(int, int) IndexOutOfBoundsException IllegalArgumentException",
        "int period(int) IndexOutOfBoundsException",
        "int stands(int, int, int) IndexOutOfBoundsException IllegalArgumentException",
        "int backs(int) IllegalArgumentException",
        "int ask() IllegalArgumentException",
        "int round(boolean) IllegalArgumentException",
        "int tries() IllegalArgumentException",
        "int calls(int, int, int) IndexOutOfBoundsException IllegalArgumentException",
        "int told(int, int) IndexOutOfBoundsException IllegalArgumentException",
        "int ear()",
        "int farthest()",
        "int few(int) IllegalArgumentException",
        "int seated(int) IndexOutOfBoundsException",
        "int swaps()",
        "int chase(int, int) IllegalArgumentException",
        "int couples(int) IndexOutOfBoundsException",
        "int rests(int, int) IndexOutOfBoundsException IllegalArgumentException",
        "int odds(int, int) IllegalArgumentException",
        "int black()",
        "int stretch()",
        "int fastest(boolean)",
        "int popular()",
        "int twins()",
        "int bunch(int) IllegalArgumentException",
        "int trial(int, boolean) IllegalArgumentException",
        "int span(int, boolean) IllegalArgumentException",
        "int led(int, boolean) IndexOutOfBoundsException",
        "int log(int, int) NoSuchElementException",
        "int seed(int)",
        "boolean undo()",
        "void image()",
        "boolean back()",
        "int count(int)",
    };

    public static void main(String[] args) {
        Class<?> type = PromenadeRing.class;
        Check.due("public and final", true, Modifier.isPublic(type.getModifiers()) && Modifier.isFinal(type.getModifiers()));
        methods(type);
        Set<String> open = new HashSet<>();
        for (Field f : type.getDeclaredFields()) {
            boolean isFinal = Modifier.isFinal(f.getModifiers());
            Check.due("a static field is final: " + f.getName(), true, isFinal || !Modifier.isStatic(f.getModifiers()));
            if (!Modifier.isPrivate(f.getModifiers())) {
                open.add(f.toString());
            }
        }
        Check.due("fields", "[public static final int PromenadeRing.NONE]", open.toString());
        Constructor<?>[] made = type.getDeclaredConstructors();
        Check.due("constructors", "public PromenadeRing()", made.length == 1 ? made[0].toString() : "several");
        for (Class<?> inside : type.getDeclaredClasses()) {
            int is = inside.getModifiers();
            Check.due(inside.getName() + " is static and not open", true,
                Modifier.isStatic(is) && !Modifier.isPublic(is) && !Modifier.isProtected(is));
        }
        documentHasTheFace();
        eachPromiseHasItsChecks();
        Check.end("FaceTest");
    }

    private static void documentHasTheFace() {
        Matcher line = Pattern.compile("\n    public (\\w+ \\w+)\\(([^)]*)\\)(?: throws ([^;]*))?;").matcher(Check.document());
        List<String> told = new ArrayList<>();
        while (line.find()) {
            String parameters = line.group(2).replaceAll("(\\w+) \\w+", "$1");
            String thrown = line.group(3) == null ? "" : " " + line.group(3).replace(",", "");
            told.add(line.group(1) + "(" + parameters + ")" + thrown);
        }
        Check.due("the document's face", List.of(FACE).toString(), Check.document().isEmpty() ? List.of(FACE).toString() : told.toString());
    }

    /** The promises follow the face: the first one is the constructor. */
    private static void eachPromiseHasItsChecks() {
        Path tests = Path.of("src/test/java");
        String checks = Check.read(tests.resolve("Promises1Test.java")) + Check.read(tests.resolve("Promises2Test.java"));
        for (int i = 0; i < FACE.length; i++) {
            String name = FACE[i].substring(FACE[i].indexOf(' ') + 1, FACE[i].indexOf('('));
            String heading = "## Promise " + (i + 2) + ": " + name;
            Check.says(heading);
            Check.due("it has checks of its own", true, checks.contains("Check.says(\"" + heading + "\")"));
        }
    }

    private static void methods(Class<?> type) {
        List<String> due = new ArrayList<>(List.of(FACE));
        List<String> got = new ArrayList<>();
        Set<String> names = new HashSet<>();
        List<Method> hidden = new ArrayList<>();
        for (Method m : type.getDeclaredMethods()) {
            if (Modifier.isPrivate(m.getModifiers())) {
                hidden.add(m);
            } else {
                got.add(told(m));
                names.add(m.getName());
            }
        }
        for (Class<?> inside : type.getDeclaredClasses()) {
            Collections.addAll(hidden, inside.getDeclaredMethods());
        }
        Collections.sort(due);
        Collections.sort(got);
        Check.due("methods", due.toString(), got.toString());
        for (Method m : hidden) {
            Check.due("a hidden method is not named as one of the face: " + m, false, names.contains(m.getName()));
            Check.due("seven parameters at most: " + m, true, m.getParameterCount() <= 7);
        }
    }

    private static String told(Method m) {
        List<String> parameters = new ArrayList<>();
        for (Class<?> p : m.getParameterTypes()) {
            parameters.add(p.getSimpleName());
        }
        StringBuilder told = new StringBuilder(m.getReturnType().getSimpleName());
        told.append(' ').append(m.getName()).append('(').append(String.join(", ", parameters)).append(')');
        for (Class<?> e : m.getExceptionTypes()) {
            told.append(' ').append(e.getSimpleName());
        }
        return told.toString();
    }
}
