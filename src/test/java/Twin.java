import java.util.ArrayDeque;
import java.util.ArrayList;
import java.util.Arrays;
import java.util.Deque;
import java.util.List;
import java.util.function.IntUnaryOperator;

/** All that the document says a shed answers, over whole runs of calls: thought by Model, deeds and shelves here. */
final class Twin {
    static final int BAD = -1, NOT = -2, FULL = -3, STATE = -5, MISSING = -11, OTHER = -12, PLACE = -13, BELOW = -14;
    static final int VOID = -2000000000;
    static final long NONE = Long.MIN_VALUE;

    record Change(int number, int what, int was, int is) { }

    record Row(int sort, long[] elements) { }

    record Kept(int cold, int bears, int now, int[] led) { }

    final Model m = new Model();
    private final StringBuilder tape = new StringBuilder();
    private final Deque<Change> changes = new ArrayDeque<>();
    private final Deque<Change> undone = new ArrayDeque<>();
    private int[] led = new int[5];
    private Kept image = null;
    private final List<Integer> kinds = new ArrayList<>();
    private List<Integer> ran = List.of();
    /** null, a Row, or the number of a BODY. */
    private final Object[] shelves = new Object[6];

    long answer(String name, int[] a, long v) {
        return switch (name) {
            case "farm" -> farm(a[0]);
            case "want" -> want(a[0], a[1]);
            case "wants" -> wants(a[0], a[1], a[2]);
            case "mend" -> mend(a[0], a[1], a[2]);
            case "of" -> of(a[0], a[1]);
            case "feed" -> feed(a[0]);
            case "law" -> law();
            case "cold" -> cold(a[0], a[1]);
            case "plan" -> plan(a[0], a[1], a[2]);
            case "gives" -> gives(a[0], a[1]);
            case "idle" -> a[0] < m.now || a[0] > 30 ? BAD : m.coldOn(a[0], d -> 0);
            case "best" -> best(a[0], a[1]);
            case "all" -> a[0] == 0 ? m.firstUnmet() : a[0] == 1 ? m.leastCold() : BAD;
            case "vote" -> vote(a[0], a[1]);
            case "most" -> isDay(a[0]) ? m.most(a[0]) : BAD;
            case "power" -> isFarm(a[0]) && isBit(a[1]) ? m.power(a[0])[a[1]] : NONE;
            case "agenda" -> isDay(a[0]) && (a[1] & 1) == 0 && a[1] >>> 25 == 0 ? m.agenda(a[0], a[1]) : BAD;
            case "price" -> price(a[0], a[1]);
            case "judge" -> judge(a[0]);
            case "knock" -> knock(a[0], a[1]);
            case "bore" -> a[0] < m.now || a[0] > 30 || !isBit(a[1]) ? BAD : m.bore(a[0])[a[1]];
            case "byTurns" -> byTurns(a[0], a[1], a[2]);
            case "drawn" -> drawn(a[0], a[1], a[2], a[3]);
            default -> deed(name, a, v);
        };
    }

    private long deed(String name, int[] a, long v) {
        return switch (name) {
            case "pass" -> pass(a[0]);
            case "bring" -> a[0] < 1 || a[0] > 99 ? BAD : (m.cold = Math.min(999, m.cold + a[0]));
            case "boards" -> m.bears = Math.min(999, m.bears + 10);
            case "led" -> a[0] < 0 || a[0] > 4 ? BAD : led[a[0]];
            case "image" -> image();
            case "back" -> back();
            case "undo" -> undo();
            case "redo" -> redo();
            case "body" -> body(a[0]);
            case "act" -> act(a[0], a[1], a[2]);
            case "trace" -> a[0] < 0 || a[0] >= Math.min(24, ran.size()) ? BAD : ran.get(a[0]);
            case "keep" -> keep(a[0], a[1]);
            case "row" -> row(a[0], a[1], a[2]);
            case "put" -> put(a[0], a[1], v);
            case "element" -> place(a[0], a[1]) < 0 ? NONE : ((Row) shelves[a[0]]).elements()[a[1]];
            case "shift" -> shift(a[0], a[1], a[2], a[3], a[4]);
            case "taken" -> taken(a[0], a[1]);
            case "count" -> answerCount(a[0]);
            default -> throw new IllegalStateException(name);
        };
    }

    private boolean isFarm(int f) {
        return f >= 0 && f < m.bees.size();
    }

    private static boolean isDay(int day) {
        return day >= 0 && day <= 29;
    }

    private static boolean isBit(int v) {
        return v == 0 || v == 1;
    }

    private int farm(int bees) {
        if (bees < 0 || bees > 9) {
            return BAD;
        }
        if (m.bees.size() == 6) {
            return FULL;
        }
        m.bees.add(bees);
        m.voices.add(1);
        return m.bees.size() - 1;
    }

    private int addWant(int farm, int day, int hours, int gain) {
        if (!isFarm(farm) || !isDay(day) || hours < 1 || hours > 24 || gain < 0 || gain > 99) {
            return BAD;
        }
        if (m.wants.size() == 12) {
            return FULL;
        }
        m.wants.add(new Model.Want(m.wants.size(), farm, day, hours, gain));
        return m.wants.size() - 1;
    }

    private int want(int farm, int dh) {
        return dh < 0 ? BAD : addWant(farm, dh / 100, dh % 100, 10);
    }

    private int wants(int shelf, int i, int n) {
        if (shelf < 0 || shelf > 5 || n < 1 || n > 12) {
            return BAD;
        }
        if (shelves[shelf] == null) {
            return 0;
        }
        if (sortOf(shelf) != 0) {
            return OTHER;
        }
        long[] e = ((Row) shelves[shelf]).elements();
        int came = 0;
        for (long at = i; came < n && at >= 0 && at + 4 <= e.length; at += 4) {
            int p = (int) at;
            if (addWant((int) e[p], (int) e[p + 1], (int) e[p + 2], (int) e[p + 3]) < 0) {
                break;
            }
            came++;
        }
        return came;
    }

    /** The sort of a ROW on a SHELF; -1: another thing or nothing. */
    private int sortOf(int shelf) {
        return shelves[shelf] instanceof Row row ? row.sort() : -1;
    }

    private int of(int number, int what) {
        if (what == 0 || what == 1) {
            return isFarm(number) ? (what == 0 ? m.bees : m.voices).get(number) : BAD;
        }
        if (what >= 2 && what <= 4 || what == 10) {
            if (number < 0 || number >= m.wants.size()) {
                return BAD;
            }
            Model.Want w = m.wants.get(number);
            return what == 2 ? w.day() : what == 3 ? w.hours() : what == 4 ? w.gain() : w.farm();
        }
        if (number != 0 || what < 5 || what > 9) {
            return BAD;
        }
        return new int[] {m.cold, m.bears, m.grows, m.leak, m.now}[what - 5];
    }

    private void set(int number, int what, int v) {
        switch (what) {
            case 0 -> m.bees.set(number, v);
            case 1 -> m.voices.set(number, v);
            case 2, 3, 4 -> {
                Model.Want w = m.wants.get(number);
                m.wants.set(number, new Model.Want(number, w.farm(), what == 2 ? v : w.day(), what == 3 ? v : w.hours(),
                        what == 4 ? v : w.gain()));
            }
            case 5 -> m.cold = v;
            case 6 -> m.bears = v;
            case 7 -> m.grows = v;
            case 8 -> m.leak = v;
            default -> m.now = v;
        }
    }

    private int mend(int number, int what, int v) {
        int was = what == 10 ? BAD : of(number, what);
        if (was == BAD) {
            return BAD;
        }
        int least = what == 3 || what == 6 ? 1 : 0;
        int most = switch (what) {
            case 2, 9 -> 29;
            case 3 -> 24;
            case 4 -> 99;
            case 5, 6 -> 999;
            default -> 9;
        };
        if (v < least || v > most) {
            return BAD;
        }
        if (v != was) {
            set(number, what, v);
            changes.addLast(new Change(number, what, was, v));
            undone.clear();
            if (changes.size() > 40) {
                changes.removeFirst();
            }
        }
        return was;
    }

    private int feed(int letter) {
        if (letter < 0 || letter > 255) {
            return BAD;
        }
        return tape.length() == 120 ? FULL : tape.append((char) letter).length();
    }

    private int law() {
        String text = tape.toString();
        tape.setLength(0);
        int fault = LawOracle.fault(text);
        if (fault >= 0) {
            return -100 - fault;
        }
        m.law = text;
        return 1;
    }

    private int refuse(int shelf, int sort) {
        if (shelf < 0 || shelf > 5) {
            return BAD;
        }
        return shelves[shelf] == null ? MISSING : sortOf(shelf) == sort ? 1 : OTHER;
    }

    private IntUnaryOperator asked(int shelf) {
        long[] e = ((Row) shelves[shelf]).elements();
        int from = m.now;
        return d -> d - from < e.length ? (int) e[d - from] : 0;
    }

    private int cold(int shelf, int day) {
        int no = day < m.now || day > 30 ? BAD : refuse(shelf, 0);
        return no < 0 ? no : m.coldOn(day, asked(shelf));
    }

    private int plan(int shelf, int day, int what) {
        boolean known = what >= 0 && what <= 3 || what >= 10 && isFarm(what - 10);
        int no = !known || day < m.now || day > 29 ? BAD : refuse(shelf, 0);
        return no < 0 ? no : m.planSum(asked(shelf), day, what);
    }

    private int gives(int shelf, int what) {
        int no = isBit(what) ? refuse(shelf, 0) : BAD;
        return no < 0 ? no : what == 0 ? m.gives(asked(shelf)) : m.last(asked(shelf));
    }

    private int best(int t, int k) {
        return t < 1 || t > 4 || k < -1 || k >= t ? VOID : m.best(t)[k + 1];
    }

    private int vote(int dl, int what) {
        if (dl < 0 || dl > 2924 || dl % 100 > 24 || what < 0 || what > 2) {
            return BAD;
        }
        int yes = m.yes(dl / 100, dl % 100);
        return what == 0 ? yes : what == 1 ? (m.carries(yes) ? 1 : 0) : m.swing(dl / 100, dl % 100);
    }

    private int price(int day, int p) {
        if (!isDay(day) || p < -1 || p > 99) {
            return BAD;
        }
        return p < 0 ? m.bestPrice(day) : m.sold(day, p);
    }

    private int judge(int shelf) {
        int no = refuse(shelf, 1);
        return no < 0 ? no : m.judge(((Row) shelves[shelf]).elements());
    }

    private int knock(int shelf, int what) {
        int no = what < 0 || what > 3 ? BAD : refuse(shelf, 1);
        if (no < 0) {
            return no;
        }
        long[] told = ((Row) shelves[shelf]).elements();
        return (what < 2 ? m.howMuch(told) : m.howFast(told))[what % 2];
    }

    private int byTurns(int ab, int hn, int what) {
        if (ab < 0 || hn < 0 || !isBit(what) || ab / 10 == ab % 10 || !isFarm(ab / 10) || !isFarm(ab % 10)) {
            return VOID;
        }
        if (hn / 10 < 1 || hn / 10 > 24 || hn % 10 < 1 || hn % 10 > 5) {
            return VOID;
        }
        int nothing = m.byTurns(ab / 10, ab % 10, hn / 10, hn % 10, new ArrayList<>(List.of(0)));
        int something = m.byTurns(ab / 10, ab % 10, hn / 10, hn % 10, new ArrayList<>(List.of(hn / 10)));
        return what == 0 ? Math.max(nothing, something) : nothing < something ? 1 : 0;
    }

    private int drawn(int shelf, int seed, int nmo, int what) {
        int n = nmo / 10000;
        int days = nmo % 10000 / 100;
        int open = nmo % 100;
        if (nmo < 0 || n < 1 || n > 30 || days < 1 || days > 30 || open > 12 || !isBit(what) || refuse(shelf, 0) < 0) {
            return VOID;
        }
        return m.drawn(asked(shelf), seed, n, days, open)[what];
    }

    private int pass(int l) {
        if (l < 0 || l > 24) {
            return BAD;
        }
        if (m.now == 29) {
            return STATE;
        }
        boolean gave = m.cold > m.bears;
        int there = gave ? 0 : m.cold;
        if (l > there) {
            return NOT;
        }
        int[] day = {1, l, m.gain(m.now, l), m.harmAll(m.now, l), gave ? 1 : 0};
        for (int i = 0; i < 5; i++) {
            led[i] += day[i];
        }
        m.cold = m.overnight(m.now, there - l, l);
        m.now++;
        return m.cold;
    }

    private int image() {
        image = new Kept(m.cold, m.bears, m.now, led.clone());
        return m.now;
    }

    private int back() {
        if (image == null) {
            return STATE;
        }
        m.cold = image.cold();
        m.bears = image.bears();
        m.now = image.now();
        led = image.led().clone();
        return m.now;
    }

    private int undo() {
        if (changes.isEmpty()) {
            return STATE;
        }
        Change c = changes.removeLast();
        set(c.number(), c.what(), c.was());
        undone.addLast(c);
        return changes.size();
    }

    private int redo() {
        if (undone.isEmpty()) {
            return STATE;
        }
        Change c = undone.removeLast();
        set(c.number(), c.what(), c.is());
        changes.addLast(c);
        return undone.size();
    }

    private int body(int kind) {
        if (kind < 0 || kind > 7) {
            return BAD;
        }
        if (kinds.size() == 50) {
            return FULL;
        }
        kinds.add(kind);
        return kinds.size() - 1;
    }

    private int act(int body, int act, int x) {
        ran = List.of();
        if (body < 0 || body >= kinds.size() || act < 0 || act > 3) {
            return 0;
        }
        int answer = FrostKinds.act(FrostKinds.make(kinds.get(body), body), act, x);
        ran = List.copyOf(FrostKinds.RAN);
        return answer;
    }

    private int keep(int shelf, int body) {
        if (shelf < 0 || shelf > 5 || body < -1 || body >= kinds.size()) {
            return BAD;
        }
        shelves[shelf] = body < 0 ? null : (Integer) body;
        return 1;
    }

    private int row(int shelf, int sort, int n) {
        if (shelf < 0 || shelf > 5 || sort < 0 || sort > 4 || n > 60) {
            return BAD;
        }
        if (n < 0) {
            return BELOW;
        }
        shelves[shelf] = new Row(sort, new long[n]);
        return 1;
    }

    private int place(int shelf, int i) {
        if (shelf < 0 || shelf > 5) {
            return BAD;
        }
        if (shelves[shelf] == null) {
            return MISSING;
        }
        if (!(shelves[shelf] instanceof Row row)) {
            return OTHER;
        }
        return i < 0 || i >= row.elements().length ? PLACE : 1;
    }

    private int put(int shelf, int i, long v) {
        int no = place(shelf, i);
        if (no > 0) {
            Row row = (Row) shelves[shelf];
            int unused = new int[] {56, 48, 32, 0, 0}[row.sort()];
            row.elements()[i] = row.sort() == 4 ? (v == 0 ? 0 : 1) : v << unused >> unused;
        }
        return no;
    }

    private int shift(int shelf, int i, int other, int j, int n) {
        if (shelf < 0 || shelf > 5 || other < 0 || other > 5) {
            return BAD;
        }
        if (shelves[shelf] == null || shelves[other] == null) {
            return MISSING;
        }
        if (!(shelves[shelf] instanceof Row from) || !(shelves[other] instanceof Row to) || from.sort() != to.sort()) {
            return OTHER;
        }
        if (i < 0 || j < 0 || n < 0 || (long) i + n > from.elements().length || (long) j + n > to.elements().length) {
            return PLACE;
        }
        long[] taken = Arrays.copyOfRange(from.elements(), i, i + n);
        for (int k = 0; k < n; k++) {
            to.elements()[j + k] = taken[k];
        }
        return n;
    }

    private int taken(int shelf, int k) {
        if (shelf < 0 || shelf > 5 || k < 0 || k > 7) {
            return BAD;
        }
        if (shelves[shelf] == null) {
            return MISSING;
        }
        if (!(shelves[shelf] instanceof Integer body)) {
            return OTHER;
        }
        Class<?> wanted = FrostKinds.make(k, 0).getClass();
        return wanted.isInstance(FrostKinds.make(kinds.get(body), body)) ? kinds.get(body) : OTHER;
    }

    int answerCount(int what) {
        return switch (what) {
            case 0 -> m.bees.size();
            case 1 -> m.wants.size();
            case 2 -> tape.length();
            case 3 -> changes.size();
            case 4 -> kinds.size();
            case 5 -> ran.size();
            default -> BAD;
        };
    }
}
