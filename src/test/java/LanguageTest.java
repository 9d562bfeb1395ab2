import java.io.IOException;
import java.nio.file.Files;
import java.nio.file.Path;
import java.util.ArrayList;
import java.util.List;
import java.util.regex.Matcher;
import java.util.regex.Pattern;

/** What of ../shared/LANGUAGE.md can be seen by a look at the lines of the class; run it from the project's folder. */
public final class LanguageTest {
    private static final String[] OUTSIDE = {
        "->", "::", "@", "\\bcatch\\b", "\\btry\\b", "\\bfinally\\b", "\\bsynchronized\\b", "\\bassert\\b", "\\bpackage\\b",
        "Exact\\(", "\\bstatic \\{", "\\.getMessage", "\\.hashCode", "\\bSystem\\.(?!arraycopy)", "\\bdouble\\b", "\\bfloat\\b",
        "\" \\+", "\\+ \"", "\\bprotected\\b", "\\bdefault ->",
    };
    private static final int MOST_METHOD_LINES = 60;
    private static final int MOST_CLASSES = 12;
    private static final int MOST_FIELDS = 20;

    public static void main(String[] args) throws IOException {
        List<String> lines = Files.readAllLines(Path.of("src/main/java/PromenadeRing.java"));
        List<String> code = new ArrayList<>();
        for (String line : lines) {
            String bare = line.trim();
            if (!bare.startsWith("//") && !bare.startsWith("/*") && !bare.startsWith("*")) {
                code.add(line);
            }
        }
        for (String line : code) {
            for (String outside : OUTSIDE) {
                Check.due(outside + " in: " + line, false, Pattern.compile(outside).matcher(line).find());
            }
            boolean imports = line.startsWith("import ");
            Check.due(line, true, !imports || line.equals("import java.util.Arrays;")
                || line.equals("import java.util.NoSuchElementException;"));
        }
        methods(code);
        classes();
        Check.end("LanguageTest");
    }

    private static void methods(List<String> code) {
        Pattern head = Pattern.compile("^( {4}| {8})[a-zA-Z][^=;]*\\([^=;]*\\{$");
        for (int i = 0; i < code.size(); i++) {
            Matcher m = head.matcher(code.get(i));
            if (m.find()) {
                int end = i;
                while (!code.get(end).equals(m.group(1) + "}")) {
                    end++;
                }
                Check.due(code.get(i).trim() + " is short", true, end - i <= MOST_METHOD_LINES);
            }
        }
    }

    private static void classes() {
        List<Class<?>> all = new ArrayList<>(List.of(PromenadeRing.class.getDeclaredClasses()));
        all.add(PromenadeRing.class);
        Check.due("classes", true, all.size() <= MOST_CLASSES);
        for (Class<?> type : all) {
            int fields = 0;
            for (java.lang.reflect.Field f : type.getDeclaredFields()) {
                fields += java.lang.reflect.Modifier.isStatic(f.getModifiers()) ? 0 : 1;
            }
            Check.due(type.getName() + " has few fields", true, fields <= MOST_FIELDS);
        }
    }
}
