import java.lang.reflect.Method;
import java.util.ArrayDeque;
import java.util.Deque;
import java.util.HashMap;
import java.util.Map;
import java.util.Random;

/** Runs of 512 calls of all kinds by draws, each answer against the plain Twin. */
public final class TwinTest {
    private static final Due DUE = new Due("twin");
    private static final int RUNS = 70, CALLS = 512;
    private static final Map<String, Method> FACE = new HashMap<>();
    private static final String[] OFTEN = {"mend", "mend", "undo", "redo", "pass", "pass", "image", "back", "boards", "bring", "led",
        "count", "of", "wants", "shift", "element", "cold", "plan", "gives", "keep", "taken"};
    private static final int[] EDGES = {Integer.MIN_VALUE, Integer.MAX_VALUE, -100, -2, -1, 0, 1, 2, 3, 4, 5, 6, 7, 8, 9, 10, 11, 12, 24, 25,
        29, 30, 31, 49, 50, 59, 60, 61, 99, 100, 120, 255, 256, 999, 1000, 2924, 2925, 3000, 33554432};
    private static final String[] LAWS = {"g*(l=0)+c/20-k-d%3+b/300", "c>150?-60;g*3", "l?-l;d%7=3?99;c<30?9;2-k", "b-c", "0", "-c/3+g",
        "!l*c/4", "(b%2)*9+g", "c&k|l<g", "1+", "c?", "((((((1))))))", "-------1", "12345", "c*c-99", "d<5?5;-5"};

    private final Random r;
    private final WinterShed x = new WinterShed();
    private final Twin twin = new Twin();
    private final Deque<String> latest = new ArrayDeque<>();
    private final int seed;
    private int left = CALLS;
    private boolean wrong = false;

    private TwinTest(int seed) {
        this.seed = seed;
        r = new Random(seed);
    }

    public static void main(String[] args) throws Exception {
        for (Method m : WinterShed.class.getDeclaredMethods()) {
            if (java.lang.reflect.Modifier.isPublic(m.getModifiers())) {
                FACE.put(m.getName(), m);
            }
        }
        String[] names = FACE.keySet().stream().sorted().toArray(String[]::new);
        DUE.is("calls of the face", names.length, 41);
        for (int seed = 0; seed < RUNS; seed++) {
            new TwinTest(seed).run(names);
        }
        DUE.end();
    }

    private void run(String[] names) throws Exception {
        boolean late = r.nextInt(3) == 0;
        while (left > 0 && !wrong) {
            switch (r.nextInt(late ? 60 : 24)) {
                case 0 -> fillPlan();
                case 1 -> fillTold();
                case 2 -> fillWants();
                case 3 -> feedLaw();
                case 4 -> village();
                case 5, 6, 7, 8, 9, 10 -> askAny(OFTEN[r.nextInt(OFTEN.length)]);
                default -> askAny(names[r.nextInt(names.length)]);
            }
        }
    }

    private void ask(String name, long v, int... a) throws Exception {
        if (left <= 0 || wrong) {
            return;
        }
        left--;
        Method m = FACE.get(name);
        Object[] given = new Object[m.getParameterCount()];
        StringBuilder call = new StringBuilder(name);
        for (int i = 0; i < given.length; i++) {
            given[i] = m.getParameterTypes()[i] == long.class ? (Object) v : (Object) a[i];
            call.append(i == 0 ? "(" : ", ").append(given[i]);
        }
        long got = ((Number) m.invoke(x, given)).longValue();
        long due = twin.answer(name, a, v);
        latest.addLast(call + " = " + got);
        if (latest.size() > 12) {
            latest.removeFirst();
        }
        wrong = got != due;
        DUE.is(wrong ? "run " + seed + " behind " + latest : name, got, due);
    }

    private void fillPlan() throws Exception {
        int shelf = r.nextInt(3);
        int n = r.nextInt(8);
        ask("row", 0, shelf, 0, n + r.nextInt(30));
        for (int i = 0; i < n; i++) {
            ask("put", r.nextInt(5) == 0 ? r.nextInt(256) : r.nextInt(13), shelf, i);
        }
    }

    private void fillTold() throws Exception {
        int shelf = 3 + r.nextInt(2);
        int n = r.nextInt(5);
        ask("row", 0, shelf, 1, n);
        for (int i = 0; i < n; i++) {
            int day = Math.min(30, twin.m.now + i);
            ask("put", twin.m.coldOn(day, d -> 0) + (r.nextInt(15) == 0 ? 1 : 0), shelf, i);
        }
        ask("judge", 0, shelf);
        ask("knock", 0, shelf, r.nextInt(4));
    }

    private void fillWants() throws Exception {
        int n = r.nextInt(14);
        ask("row", 0, 5, 0, n);
        for (int i = 0; i < n; i++) {
            int most = new int[] {Math.max(1, twin.m.bees.size()), 30, 25, 100}[i % 4];
            ask("put", r.nextInt(20) == 0 ? -1 : r.nextInt(most), 5, i);
        }
        ask("wants", 0, 5, r.nextInt(8) == 0 ? r.nextInt(12) - 2 : 0, 1 + r.nextInt(4));
    }

    private void feedLaw() throws Exception {
        for (char letter : LAWS[r.nextInt(LAWS.length)].toCharArray()) {
            ask("feed", 0, letter);
        }
        ask("law", 0);
    }

    private void village() throws Exception {
        ask("farm", 0, r.nextInt(10));
        for (int i = 0; i < 3; i++) {
            int day = Math.min(29, twin.m.now + r.nextInt(5));
            ask("want", 0, r.nextInt(Math.max(1, twin.m.bees.size())), 100 * day + 1 + r.nextInt(24));
        }
    }

    private void askAny(String name) throws Exception {
        // What goes through all COLDS or BEARS is dear in the plain Twin.
        if (name.equals("bore") && r.nextInt(12) != 0 || name.matches("all|knock") && r.nextInt(3) != 0) {
            return;
        }
        int[] a = arguments(name);
        if (r.nextInt(9) == 0) {
            a[r.nextInt(3)] = EDGES[r.nextInt(EDGES.length)];
        }
        ask(name, r.nextInt(3) == 0 ? r.nextLong() : r.nextInt(300) - 20, a);
    }

    private int number(int below) {
        return r.nextInt(Math.max(1, below));
    }

    private int dayToCome(int last) {
        return twin.m.now + number(last + 1 - twin.m.now);
    }

    private int[] arguments(String name) {
        int farm = number(twin.m.bees.size());
        int day = r.nextInt(30);
        int shelf = r.nextInt(6);
        int some = r.nextInt(1 << r.nextInt(8));
        return switch (name) {
            case "farm" -> five(r.nextInt(11));
            case "want" -> five(farm, 100 * day + r.nextInt(26));
            case "wants" -> five(shelf, r.nextInt(5), 1 + r.nextInt(12));
            case "mend", "of" -> mending();
            case "feed" -> five(r.nextInt(256));
            case "cold", "gives" -> five(r.nextInt(3), name.equals("cold") ? dayToCome(30) : r.nextInt(2));
            case "plan" -> five(r.nextInt(3), dayToCome(29), r.nextBoolean() ? r.nextInt(4) : 10 + farm);
            case "idle" -> five(dayToCome(30));
            case "best" -> five(1 + r.nextInt(4), r.nextInt(4) - 1);
            case "all" -> five(r.nextInt(2));
            case "vote" -> five(100 * wantedDay(day) + r.nextInt(25), r.nextInt(3));
            case "most", "judge" -> five(name.equals("most") ? wantedDay(day) : 3 + r.nextInt(2));
            case "power" -> five(farm, r.nextInt(2));
            case "agenda" -> five(wantedDay(day), r.nextInt(1 << 24) << 1);
            case "price" -> five(wantedDay(day), r.nextInt(12) - 1);
            case "knock" -> five(3 + r.nextInt(2), r.nextInt(4));
            case "bore" -> five(dayToCome(30), r.nextInt(2));
            case "byTurns" -> five(10 * farm + number(twin.m.bees.size()), 10 * (1 + r.nextInt(24)) + 1 + r.nextInt(5), r.nextInt(2));
            case "drawn" -> five(r.nextInt(3), r.nextInt(), 10000 * (1 + r.nextInt(30)) + 100 * (1 + r.nextInt(30)) + r.nextInt(13), r.nextInt(2));
            case "pass" -> five(r.nextInt(4) == 0 ? r.nextInt(25) : r.nextInt(3));
            case "bring" -> five(1 + r.nextInt(99));
            case "led", "count" -> five(r.nextInt(6));
            case "body" -> five(r.nextInt(8));
            case "act" -> five(number(twin.answerCount(4)), r.nextInt(4), r.nextInt());
            case "trace" -> five(r.nextInt(15));
            case "keep" -> five(shelf, number(twin.answerCount(4) + 2) - 1);
            case "row" -> five(shelf, r.nextInt(5), r.nextInt(61));
            case "put", "element" -> five(shelf, some);
            case "shift" -> five(shelf, some, r.nextInt(6), r.nextInt(5), r.nextInt(12));
            case "taken" -> five(shelf, r.nextInt(8));
            default -> five();
        };
    }

    /** Days of WANTS are asked more than others. */
    private int wantedDay(int day) {
        int wants = twin.m.wants.size();
        return wants == 0 || r.nextInt(5) == 0 ? day : twin.m.wants.get(r.nextInt(wants)).day();
    }

    private int[] mending() {
        int what = r.nextInt(11);
        int number = what < 2 ? number(twin.m.bees.size()) : what < 5 || what > 9 ? number(twin.m.wants.size()) : 0;
        int most = new int[] {9, 9, 29, 24, 99, r.nextBoolean() ? 120 : 999, r.nextBoolean() ? 120 : 999, 9, 9, 29, 5}[what];
        return five(number, what, r.nextInt(most + 1));
    }

    private static int[] five(int... a) {
        return java.util.Arrays.copyOf(a, 5);
    }
}
