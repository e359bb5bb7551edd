import java.lang.reflect.Method;
import java.nio.file.Files;
import java.nio.file.Path;
import java.util.List;
import java.util.regex.Matcher;
import java.util.regex.Pattern;

/** Makes the calls that README.md shows, line by line, and looks whether they answer what it says. */
public final class ReadmeTest {
    private static final Due DUE = new Due("readme");
    private static final String NEW = "    WinterShed x = new WinterShed();";
    private static final Pattern CALL = Pattern.compile("    x\\.(\\w+)\\((.*)\\); +// (-?\\d+)(:.*)?");

    public static void main(String[] args) throws Exception {
        String text = Files.readString(Path.of(System.getProperty("readme", "README.md")));
        WinterShed x = null;
        int calls = 0;
        for (String line : text.split("\n")) {
            if (line.startsWith(NEW)) {
                x = new WinterShed();
            }
            Matcher call = CALL.matcher(line);
            if (line.startsWith("    x.")) {
                DUE.that("a call and its answer: " + line, call.matches() && x != null);
                DUE.is(line.trim(), answer(x, call.group(1), call.group(2)), Long.parseLong(call.group(3)));
                calls++;
            }
        }
        DUE.that("calls in README.md: " + calls, calls >= 20);
        for (String word : List.of("new WinterShed()", "BAD", "NOT", "FULL", "STATE", "VOID", "-11", "-12", "-13", "-14", "-2000000000",
                "Long.MIN_VALUE", "    .ci/run\n", "../shared/DOC.md", "512")) {
            DUE.that("README.md tells " + word, text.contains(word));
        }
        names(text);
        DUE.end();
    }

    /** Tests that are told and tests that there are. */
    private static void names(String text) throws Exception {
        Path tests = Path.of(System.getProperty("source", "src/main/java/WinterShed.java")).resolve("../../../test/java").normalize();
        try (var files = Files.list(tests)) {
            for (Path file : files.filter(f -> f.getFileName().toString().endsWith("Test.java")).toList()) {
                String name = file.getFileName().toString().replace(".java", "");
                DUE.that("README.md tells of " + name, text.contains("`" + name + "`"));
            }
        }
    }

    private static long answer(WinterShed x, String name, String told) throws Exception {
        for (Method m : WinterShed.class.getMethods()) {
            if (m.getName().equals(name)) {
                Class<?>[] kinds = m.getParameterTypes();
                Object[] given = new Object[kinds.length];
                String[] words = told.split(", ");
                for (int i = 0; i < given.length; i++) {
                    int v = words[i].startsWith("'") ? words[i].charAt(1) : Integer.parseInt(words[i]);
                    given[i] = kinds[i] == long.class ? (Object) (long) v : (Object) v;
                }
                return ((Number) m.invoke(x, given)).longValue();
            }
        }
        DUE.that("a call of the face: " + name, false);
        return 0;
    }
}
