/** Promises 33 to 36 and 41: body, act, trace, keep, taken. */
public final class ActsTest {
    private static final Due DUE = new Due("acts");

    public static void main(String[] args) {
        bodies();
        actsByKinds();
        noSuchAct();
        keeping();
        taking();
        DUE.end();
    }

    private static void bodies() {
        WinterShed x = new WinterShed();
        DUE.is("body(-1)", x.body(-1), -1);
        DUE.is("body(8)", x.body(8), -1);
        for (int i = 0; i < 50; i++) {
            DUE.is("body", x.body(i % 8), i);
        }
        DUE.is("body 50", x.body(0), -3);
        DUE.is("body(8) when full", x.body(8), -1);
        DUE.is("count(4)", x.count(4), 50);
        DUE.is("act of body 49", x.act(49, 2, 0), 49 * 1);
    }

    private static void actsByKinds() {
        WinterShed x = new WinterShed();
        for (int n = 0; n < 40; n++) {
            x.body(n % 8);
        }
        int[] xs = {0, 1, -1, 7, 1000000007, Integer.MAX_VALUE, Integer.MIN_VALUE};
        for (int n = 0; n < 40; n++) {
            for (int act = 0; act < 4; act++) {
                for (int v : xs) {
                    String call = "act(" + n + ", " + act + ", " + v + ")";
                    DUE.is(call, x.act(n, act, v), FrostKinds.act(FrostKinds.make(n % 8, n), act, v));
                    DUE.is("count(5) behind " + call, x.count(5), FrostKinds.RAN.size());
                    traceIs(x, call);
                }
            }
        }
    }

    private static void traceIs(WinterShed x, String call) {
        int kept = Math.min(24, FrostKinds.RAN.size());
        for (int i = 0; i < kept; i++) {
            DUE.is("trace(" + i + ") behind " + call, x.trace(i), FrostKinds.RAN.get(i));
        }
        DUE.is("trace behind the last", x.trace(kept), -1);
        DUE.is("trace(-1)", x.trace(-1), -1);
    }

    private static void noSuchAct() {
        WinterShed x = new WinterShed();
        x.body(7);
        int[][] wrong = {{-1, 0}, {1, 0}, {50, 0}, {0, -1}, {0, 4}, {Integer.MAX_VALUE, Integer.MIN_VALUE}};
        for (int[] one : wrong) {
            x.act(0, 3, 5);
            DUE.is("count(5) of STRAW's tells", x.count(5), 14);
            DUE.is("act of no such", x.act(one[0], one[1], 5), 0);
            DUE.is("count(5): no TRACE then", x.count(5), 0);
            DUE.is("trace(0): no TRACE then", x.trace(0), -1);
        }
    }

    private static void keeping() {
        WinterShed x = new WinterShed();
        DUE.is("keep(0, 0) without bodies", x.keep(0, 0), -1);
        x.body(2);
        DUE.is("keep(-1, 0)", x.keep(-1, 0), -1);
        DUE.is("keep(6, 0)", x.keep(6, 0), -1);
        DUE.is("keep(0, 1)", x.keep(0, 1), -1);
        DUE.is("keep(0, -2)", x.keep(0, -2), -1);
        DUE.is("keep(5, 0)", x.keep(5, 0), 1);
        DUE.is("taken(5, 2)", x.taken(5, 2), 2);
        DUE.is("keep(5, -1)", x.keep(5, -1), 1);
        DUE.is("taken(5, 2)", x.taken(5, 2), -11);
        x.row(5, 0, 3);
        DUE.is("keep(5, 0) instead of a row", x.keep(5, 0), 1);
        DUE.is("put(5, 0, 0)", x.put(5, 0, 0), -12);
        x.row(5, 0, 3);
        x.keep(5, -1);
        DUE.is("put behind keep(5, -1)", x.put(5, 0, 0), -11);
    }

    private static void taking() {
        WinterShed x = new WinterShed();
        Class<?>[] kinds = new Class<?>[8];
        for (int k = 0; k < 8; k++) {
            x.body(k);
            kinds[k] = FrostKinds.make(k, 0).getClass();
        }
        for (int body = 0; body < 8; body++) {
            x.keep(1, body);
            for (int k = 0; k < 8; k++) {
                boolean under = kinds[k].isAssignableFrom(kinds[body]);
                DUE.is("taken of " + body + " for " + k, x.taken(1, k), under ? body : -12);
            }
        }
        DUE.is("taken(1, 8)", x.taken(1, 8), -1);
        DUE.is("taken(1, -1)", x.taken(1, -1), -1);
        DUE.is("taken(6, 0)", x.taken(6, 0), -1);
        DUE.is("taken(-1, 0)", x.taken(-1, 0), -1);
        DUE.is("taken of nothing", x.taken(0, 0), -11);
        x.row(0, 0, 1);
        DUE.is("taken of a row", x.taken(0, 0), -12);
    }
}
