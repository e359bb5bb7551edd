import java.lang.reflect.Constructor;
import java.lang.reflect.Field;
import java.lang.reflect.Method;
import java.lang.reflect.Modifier;
import java.nio.file.Files;
import java.nio.file.Path;
import java.util.Arrays;
import java.util.Set;
import java.util.TreeSet;
import java.util.regex.Matcher;
import java.util.regex.Pattern;

/** The document's face and nothing beside it, and what can be seen of LANGUAGE.md in the source. */
public final class FaceTest {
    private static final Due DUE = new Due("face");
    private static final String FACE = "farm(int)int want(int,int)int wants(int,int,int)int mend(int,int,int)int of(int,int)int "
            + "feed(int)int law()int cold(int,int)int plan(int,int,int)int gives(int,int)int idle(int)int best(int,int)int "
            + "all(int)int vote(int,int)int most(int)int power(int,int)long agenda(int,int)int price(int,int)int judge(int)int "
            + "knock(int,int)int bore(int,int)int byTurns(int,int,int)int drawn(int,int,int,int)int pass(int)int bring(int)int "
            + "boards()int led(int)int image()int back()int undo()int redo()int body(int)int act(int,int,int)int trace(int)int "
            + "keep(int,int)int row(int,int,int)int put(int,int,long)int element(int,int)long shift(int,int,int,int,int)int "
            + "taken(int,int)int count(int)int";

    public static void main(String[] args) throws Exception {
        methods();
        fields();
        classes();
        source();
        DUE.end();
    }

    private static String told(Method m) {
        StringBuilder s = new StringBuilder(m.getName()).append('(');
        for (Class<?> p : m.getParameterTypes()) {
            s.append(s.charAt(s.length() - 1) == '(' ? "" : ",").append(p.getName());
        }
        return s.append(')').append(m.getReturnType().getName()).toString();
    }

    private static void methods() {
        Set<String> face = new TreeSet<>(Arrays.asList(FACE.split(" ")));
        Set<String> names = new TreeSet<>();
        face.forEach(f -> names.add(f.substring(0, f.indexOf('('))));
        Set<String> found = new TreeSet<>();
        for (Method m : WinterShed.class.getDeclaredMethods()) {
            if (Modifier.isPublic(m.getModifiers())) {
                found.add(told(m));
                DUE.that(m.getName() + " is no static method", !Modifier.isStatic(m.getModifiers()));
            } else {
                DUE.that(m.getName() + " is private", Modifier.isPrivate(m.getModifiers()));
                DUE.that(m.getName() + " is no public name", !names.contains(m.getName()));
            }
        }
        DUE.that("the face is " + found, found.equals(face));
        for (Class<?> inside : WinterShed.class.getDeclaredClasses()) {
            for (Method m : inside.getDeclaredMethods()) {
                DUE.that(m.getName() + " inside is no public name", !names.contains(m.getName()));
                DUE.that(m.getName() + " takes seven at most", m.getParameterCount() <= 7);
            }
        }
        for (Constructor<?> c : WinterShed.class.getDeclaredConstructors()) {
            DUE.that("the constructor", Modifier.isPublic(c.getModifiers()) && c.getParameterCount() == 0);
        }
    }

    private static void fields() throws Exception {
        Set<String> open = new TreeSet<>(Set.of("BAD", "NOT", "FULL", "STATE", "VOID"));
        for (Field f : WinterShed.class.getDeclaredFields()) {
            boolean isOpen = open.contains(f.getName());
            DUE.that(f.getName(), isOpen ? Modifier.isPublic(f.getModifiers()) : Modifier.isPrivate(f.getModifiers()));
            if (Modifier.isStatic(f.getModifiers())) {
                DUE.that(f.getName() + " is final", Modifier.isFinal(f.getModifiers()));
            }
        }
        DUE.is("BAD", WinterShed.BAD, -1);
        DUE.is("NOT", WinterShed.NOT, -2);
        DUE.is("FULL", WinterShed.FULL, -3);
        DUE.is("STATE", WinterShed.STATE, -5);
        DUE.is("VOID", WinterShed.VOID, -2000000000);
    }

    private static void classes() {
        DUE.that("public final", Modifier.isPublic(WinterShed.class.getModifiers()) && Modifier.isFinal(WinterShed.class.getModifiers()));
        Class<?>[] inside = WinterShed.class.getDeclaredClasses();
        DUE.that("twelve classes at most", inside.length < 12);
        for (Class<?> c : inside) {
            DUE.that(c.getName() + " is static and not public", Modifier.isStatic(c.getModifiers()) && !Modifier.isPublic(c.getModifiers()));
            long own = Arrays.stream(c.getDeclaredFields()).filter(f -> !Modifier.isStatic(f.getModifiers())).count();
            DUE.that(c.getName() + " has twenty fields at most", own <= 20);
        }
    }

    private static void source() throws Exception {
        String path = System.getProperty("source", "src/main/java/WinterShed.java");
        String text = Files.readString(Path.of(path));
        DUE.that("ASCII alone", text.chars().allMatch(c -> c == '\n' || c >= 32 && c < 127));
        String code = text.replaceAll("(?s)/\\*.*?\\*/", "").replaceAll("//[^\n]*", "");
        Matcher ruledOut = Pattern.compile("\\b(throw|throws|try|catch|finally|synchronized|assert|package|var|Object|System\\.out)\\b|->|::|Exact\\b").matcher(code);
        DUE.that("nothing that LANGUAGE.md rules out", !ruledOut.find());
        Matcher imports = Pattern.compile("import ([^;]*);").matcher(code);
        while (imports.find()) {
            DUE.that("import " + imports.group(1), Set.of("java.util.Arrays", "java.util.ArrayList", "java.util.List").contains(imports.group(1)));
        }
    }
}
