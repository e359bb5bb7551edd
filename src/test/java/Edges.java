import java.io.IOException;
import java.nio.file.Files;
import java.nio.file.Path;
import java.util.ArrayList;
import java.util.List;
import java.util.Map;
import java.util.TreeMap;

/**
 * Holds each boundary that the document names by a test of its own, on a new object. Each test quotes the words
 * that it holds; where the document is at hand, they must stand in it, and at the end all of its words must be quoted.
 */
final class Edges {
    static final int BAD = -1, NOT = -2, FULL = -3, STATE = -5, MISSING = -11, OTHER = -12, PLACE = -13, BELOW = -14;
    static final int VOID = -2000000000;
    static final long NONE = Long.MIN_VALUE;
    /** Parts of the document that are no promises. */
    static final int INTRODUCTION = -1, TERMS = 0;

    interface Edge {
        void hold(WinterShed x);
    }

    /** The words of a part of the document, and which of them are quoted. */
    private static final class Part {
        final String words;
        final boolean[] quoted;

        Part(String words) {
            this.words = words;
            quoted = new boolean[words.length()];
        }
    }

    private final Map<Integer, Part> parts = new TreeMap<>();
    private int part = TERMS;
    private String words = "";
    private int tests = 0;
    private int answers = 0;
    private int answersBefore = 0;
    private int wrong = 0;

    /** Reads the document, if it is there; without it the tests hold all the same. */
    void readDocument(Path path) throws IOException {
        if (!Files.isRegularFile(path)) {
            System.out.println("edges: no document at " + path + ", so no quotes are looked up");
            return;
        }
        String text = Files.readString(path).replace("```text", "").replace("```", "");
        addPart(INTRODUCTION, between(text, "each day and hour led.", "## The public face"));
        addPart(TERMS, between(text, "## Terms", "## Promise 1:"));
        for (int p = 1; p <= 42; p++) {
            String body = between(text, "## Promise " + p + ":", p < 42 ? "## Promise " + (p + 1) + ":" : "## Not promised");
            addPart(p, body.substring(body.indexOf("`: ") + 2));
        }
    }

    private void addPart(int number, String text) {
        parts.put(number, new Part(text.replaceAll("\\s+", " ")));
    }

    private static String between(String text, String from, String to) {
        int start = text.indexOf(from);
        int end = text.indexOf(to);
        return start < 0 || end < start ? "" : text.substring(start + from.length(), end);
    }

    /** The tests that come now quote the introduction, the terms or a promise. */
    void of(int number) {
        part = number;
    }

    void test(String quote, Edge edge) {
        words = quote;
        tests++;
        quote(quote);
        answersBefore = answers;
        try {
            edge.hold(new WinterShed());
        } catch (RuntimeException | StackOverflowError e) {
            fault("threw " + e);
        }
        if (answers == answersBefore) {
            fault("asked nothing");
        }
    }

    /** Words that name no boundary: what tests of other words use all the time. */
    void told(String quote) {
        words = quote;
        quote(quote);
    }

    private void quote(String quote) {
        Part in = parts.get(part);
        if (in == null) {
            return;
        }
        int at = in.words.indexOf(quote);
        if (at < 0) {
            fault("stands not in part " + part + " of the document");
        }
        for (int i = 0; at >= 0 && i < quote.length(); i++) {
            in.quoted[at + i] = true;
        }
    }

    void is(long got, long due) {
        answers++;
        if (got != due) {
            fault(place() + " answered " + got + ", due is " + due + " (answer " + (answers - answersBefore) + ")");
        }
    }

    private static String place() {
        for (StackTraceElement e : new Throwable().getStackTrace()) {
            if (e.getClassName().endsWith("Edges") && !e.getClassName().equals("Edges") && e.getMethodName().startsWith("lambda")) {
                return e.getFileName() + ":" + e.getLineNumber();
            }
        }
        return "somewhere";
    }

    private void fault(String what) {
        wrong++;
        if (wrong <= 60) {
            System.out.println("edges: \"" + words + "\": " + what);
        }
    }

    /** How many faults there were; the words that no test quotes are faults too. */
    int end() {
        for (Map.Entry<Integer, Part> entry : parts.entrySet()) {
            for (String left : unquoted(entry.getValue())) {
                words = left;
                fault("is quoted by no test, in part " + entry.getKey());
            }
        }
        System.out.println("edges: " + tests + " tests, " + answers + " answers, " + wrong + " wrong");
        return wrong;
    }

    private static List<String> unquoted(Part p) {
        List<String> left = new ArrayList<>();
        StringBuilder run = new StringBuilder();
        for (int i = 0; i <= p.words.length(); i++) {
            if (i < p.words.length() && !p.quoted[i]) {
                run.append(p.words.charAt(i));
                continue;
            }
            if (run.toString().matches(".*[A-Za-z0-9].*")) {
                left.add(run.toString().trim());
            }
            run.setLength(0);
        }
        return left;
    }

    /** A number of mend() goes from least to most and no further, and is 'first' now; it is 'most' then. */
    void within(WinterShed x, int what, int least, int most, int first) {
        is(x.of(0, what), first);
        is(x.mend(0, what, least - 1), BAD);
        is(x.mend(0, what, most + 1), BAD);
        is(x.mend(0, what, Integer.MIN_VALUE), BAD);
        is(x.mend(0, what, Integer.MAX_VALUE), BAD);
        is(x.of(0, what), first);
        is(x.mend(0, what, least), first);
        is(x.of(0, what), least);
        is(x.mend(0, what, most), least);
        is(x.of(0, what), most);
    }

    /** All that a new object's numbers, counts, rows and LED tell, as a text: what a refusal must leave alone. */
    static String all(WinterShed x) {
        StringBuilder s = new StringBuilder();
        for (int what = 0; what <= 10; what++) {
            for (int number = 0; number < 12; number++) {
                s.append(x.of(number, what)).append(' ');
            }
        }
        for (int i = 0; i < 6; i++) {
            s.append(x.count(i)).append(' ').append(x.led(i)).append(' ').append(x.taken(i, 0)).append(' ');
            s.append(x.element(i, 0)).append(' ').append(x.element(i, 1)).append(' ').append(x.trace(i)).append(' ');
        }
        return s.append(x.idle(x.of(0, 9))).append(' ').append(x.idle(30)).toString();
    }
}
