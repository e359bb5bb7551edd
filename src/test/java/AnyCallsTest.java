import java.util.Random;

/** Any calls with any arguments in any state: none throws, and what is refused or only thought changes nothing. */
public final class AnyCallsTest {
    private static final Due DUE = new Due("any calls");
    private static final int[] EDGES = {Integer.MIN_VALUE, Integer.MAX_VALUE, -2000000000, -100, -15, -3, -2, -1, 0, 1, 2, 3, 4, 5,
        6, 7, 8, 9, 10, 11, 12, 13, 15, 16, 24, 25, 29, 30, 31, 39, 40, 49, 50, 59, 60, 61, 99, 100, 101, 103, 104, 200, 245, 255, 256, 524,
        999, 1000, 2924, 2925, 3000, 10100, 303012, 0x1FFFFFE, 33554432};
    private static final String LETTERS = "0123456789clgkdb|&<=>+-*/%!()?;";
    /** How many kinds of calls only tell, and how many there are in all. */
    private static final int TELLING = 23, CALLS = 41;

    public static void main(String[] args) {
        for (int seed = 0; seed < 400; seed++) {
            run(new Random(seed), seed % 2 == 0);
        }
        DUE.end();
    }

    private static void run(Random r, boolean tame) {
        WinterShed x = new WinterShed();
        WinterShed twin = new WinterShed();
        for (int i = 0; i < 512; i++) {
            int[] a = new int[5];
            for (int k = 0; k < 5; k++) {
                a[k] = pick(r, tame);
            }
            int call = r.nextInt(CALLS);
            String before = all(x);
            long got = call(x, call, a);
            DUE.is("the same call on a twin: " + call, call(twin, call, a), got);
            if (call < TELLING || refused(call, got)) {
                DUE.that("call " + call + " that answered " + got + " changes nothing", before.equals(all(x)));
            }
        }
    }

    private static int pick(Random r, boolean tame) {
        int kind = r.nextInt(tame ? 3 : 6);
        return kind < 2 ? r.nextInt(7) : kind < 5 ? EDGES[r.nextInt(EDGES.length)] : r.nextInt();
    }

    /** act() answers any number, and law() empties the tape; all others refuse below 0. */
    private static boolean refused(int call, long got) {
        return call != 40 && call != 39 && got < 0;
    }

    private static String all(WinterShed x) {
        StringBuilder s = new StringBuilder();
        for (int what = 0; what <= 10; what++) {
            for (int number = 0; number < 12; number++) {
                s.append(x.of(number, what)).append(' ');
            }
        }
        for (int what = 0; what < 6; what++) {
            s.append(x.count(what)).append(' ').append(x.led(what)).append(' ');
            for (int i = 0; i < 60; i++) {
                s.append(x.element(what, i)).append(' ');
            }
            s.append(x.taken(what, 0)).append(' ').append(x.put(what, 60, 0)).append(' ');
        }
        for (int i = 0; i < 24; i++) {
            s.append(x.trace(i)).append(' ');
        }
        return s.toString();
    }

    private static long call(WinterShed x, int call, int[] a) {
        switch (call) {
            case 0: return x.of(a[0], a[1]);
            case 1: return x.cold(a[0], a[1]);
            case 2: return x.plan(a[0], a[1], a[2]);
            case 3: return x.gives(a[0], a[1]);
            case 4: return x.idle(a[0]);
            case 5: return x.best(a[0], a[1]);
            case 6: return x.all(a[0]);
            case 7: return x.vote(a[0], a[1]);
            case 8: return x.most(a[0]);
            case 9: return x.power(a[0], a[1]);
            case 10: return x.agenda(a[0], a[1]);
            case 11: return x.price(a[0], a[1]);
            case 12: return x.judge(a[0]);
            case 13: return x.knock(a[0], a[1]);
            case 14: return x.bore(a[0], a[1]);
            case 15: return x.byTurns(a[0], a[1], a[2]);
            case 16: return x.drawn(a[0], a[1], a[2], a[3]);
            case 17: return x.led(a[0]);
            case 18: return x.trace(a[0]);
            case 19: return x.element(a[0], a[1]);
            case 20: return x.taken(a[0], a[1]);
            case 21: return x.count(a[0]);
            case 22: return x.image();
            default: return changing(x, call, a);
        }
    }

    private static long changing(WinterShed x, int call, int[] a) {
        switch (call) {
            case 23: return x.farm(a[0]);
            case 24: return x.want(a[0], a[1]);
            case 25: return x.wants(a[0], a[1], a[2]);
            case 26: return x.mend(a[0], a[1], a[2]);
            case 27: return x.feed(a[0]);
            case 28: return x.pass(a[0]);
            case 29: return x.bring(a[0]);
            case 30: return x.boards();
            case 31: return x.back();
            case 32: return x.undo();
            case 33: return x.redo();
            case 34: return x.body(a[0]);
            case 35: return x.keep(a[0], a[1]);
            case 36: return x.row(a[0], a[1], a[2]);
            case 37: return x.put(a[0], a[1], (long) a[2] << (a[3] & 31));
            case 38: return x.shift(a[0], a[1], a[2], a[3], a[4]);
            case 39: return x.act(a[0], a[1], a[2]);
            default: return someLaw(x, a);
        }
    }

    private static long someLaw(WinterShed x, int[] a) {
        if ((a[0] & 3) != 0) {
            x.law();
            String letters = "c-b*(l=0)+g";
            for (int i = 0; i < letters.length() - (a[1] & 1); i++) {
                x.feed(letters.charAt(i));
            }
        }
        for (int v : a) {
            x.feed(LETTERS.charAt(Math.floorMod(v, LETTERS.length())));
        }
        return x.law();
    }
}
