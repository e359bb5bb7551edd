/** Promises 37 to 40 and 42: row, put, element, shift, count. */
public final class ShelvesTest {
    private static final Due DUE = new Due("shelves");
    private static final long NONE = Long.MIN_VALUE;

    public static void main(String[] args) {
        rows();
        elements();
        lowestBits();
        shifts();
        shiftsRefused();
        counts();
        DUE.end();
    }

    private static void rows() {
        WinterShed x = new WinterShed();
        DUE.is("row(-1, 0, 0)", x.row(-1, 0, 0), -1);
        DUE.is("row(6, 0, 0)", x.row(6, 0, 0), -1);
        DUE.is("row(0, -1, 0)", x.row(0, -1, 0), -1);
        DUE.is("row(0, 5, 0)", x.row(0, 5, 0), -1);
        DUE.is("row(0, 5, -1): BAD is ahead", x.row(0, 5, -1), -1);
        DUE.is("row(0, 0, 61)", x.row(0, 0, 61), -1);
        DUE.is("row(0, 0, -1)", x.row(0, 0, -1), -14);
        DUE.is("row(0, 0, MIN)", x.row(0, 0, Integer.MIN_VALUE), -14);
        DUE.is("put: still nothing", x.put(0, 0, 0), -11);
        DUE.is("row(0, 0, 0)", x.row(0, 0, 0), 1);
        DUE.is("put(0, 0, 0) of an empty row", x.put(0, 0, 0), -13);
        DUE.is("row(0, 4, 60)", x.row(0, 4, 60), 1);
        DUE.is("put(0, 59, 1)", x.put(0, 59, 1), 1);
        DUE.is("row(0, 0, -1) changes nothing", x.row(0, 0, -1), -14);
        DUE.is("element(0, 59)", x.element(0, 59), 1);
        DUE.is("row(0, 4, 60) anew", x.row(0, 4, 60), 1);
        DUE.is("element(0, 59): 0 at first", x.element(0, 59), 0);
    }

    private static void elements() {
        WinterShed x = new WinterShed();
        x.row(0, 3, 5);
        x.keep(1, x.body(0));
        int[][] wrong = {{-1, 0, -1}, {6, 0, -1}, {2, 0, -11}, {1, 0, -12}, {0, -1, -13}, {0, 5, -13},
            {0, Integer.MAX_VALUE, -13}, {0, Integer.MIN_VALUE, -13}};
        for (int[] one : wrong) {
            DUE.is("put", x.put(one[0], one[1], 1), one[2]);
            DUE.is("element", x.element(one[0], one[1]), NONE);
        }
        DUE.is("put(0, 4, -9)", x.put(0, 4, -9), 1);
        DUE.is("element(0, 4)", x.element(0, 4), -9);
        DUE.is("element(0, 3)", x.element(0, 3), 0);
    }

    private static void lowestBits() {
        WinterShed x = new WinterShed();
        long[] vs = {0, 1, -1, 127, 128, 255, 256, 32768, 65536, 0x80000000L, 0x100000000L, Long.MAX_VALUE, Long.MIN_VALUE};
        for (int sort = 0; sort < 5; sort++) {
            x.row(0, sort, 1);
            for (long v : vs) {
                x.put(0, 0, v);
                long due = switch (sort) {
                    case 0 -> (byte) v;
                    case 1 -> (short) v;
                    case 2 -> (int) v;
                    case 3 -> v;
                    default -> v == 0 ? 0 : 1;
                };
                DUE.is("put of sort " + sort + ": " + v, x.element(0, 0), due);
            }
        }
    }

    private static void rowIs(WinterShed x, int shelf, long... due) {
        for (int i = 0; i < due.length; i++) {
            DUE.is("element(" + shelf + ", " + i + ")", x.element(shelf, i), due[i]);
        }
        DUE.is("element behind the last", x.element(shelf, due.length), NONE);
    }

    private static void shifts() {
        WinterShed x = new WinterShed();
        Due.fill(x, 0, 2, 1, 2, 3, 4, 5);
        x.row(1, 2, 3);
        DUE.is("shift to another", x.shift(0, 1, 1, 0, 3), 3);
        rowIs(x, 1, 2, 3, 4);
        rowIs(x, 0, 1, 2, 3, 4, 5);
        DUE.is("shift up", x.shift(0, 0, 0, 1, 4), 4);
        rowIs(x, 0, 1, 1, 2, 3, 4);
        DUE.is("shift down", x.shift(0, 1, 0, 0, 4), 4);
        rowIs(x, 0, 1, 2, 3, 4, 4);
        DUE.is("shift of none at the end", x.shift(0, 5, 1, 3, 0), 0);
        DUE.is("shift of none", x.shift(0, 0, 0, 0, 0), 0);
        DUE.is("shift in place", x.shift(0, 0, 0, 0, 5), 5);
        rowIs(x, 0, 1, 2, 3, 4, 4);
    }

    private static void shiftsRefused() {
        WinterShed x = new WinterShed();
        int max = Integer.MAX_VALUE;
        int min = Integer.MIN_VALUE;
        Due.fill(x, 0, 2, 1, 2, 3, 4, 5);
        x.row(1, 2, 3);
        x.row(2, 3, 3);
        x.keep(3, x.body(0));
        int[][] wrong = {
            {-1, 0, 1, 0, 1, -1}, {6, 0, 1, 0, 1, -1}, {0, 0, 6, 0, 1, -1}, {0, 0, -1, 0, 1, -1}, {4, 0, 6, 0, 1, -1},
            {4, 0, 1, 0, 1, -11}, {0, 0, 4, 0, 1, -11}, {3, 0, 4, 0, 1, -11}, {4, 0, 3, 0, 1, -11},
            {0, 0, 2, 0, 1, -12}, {0, 0, 3, 0, 1, -12}, {3, 0, 0, 0, 1, -12}, {3, 0, 3, 0, 1, -12}, {2, 9, 0, 9, 9, -12},
            {0, -1, 1, 0, 1, -13}, {0, 0, 1, -1, 1, -13}, {0, 3, 1, 0, 3, -13}, {0, 0, 1, 1, 3, -13}, {0, 6, 1, 0, 0, -13},
            {0, 0, 1, 4, 0, -13}, {0, 0, 1, 0, -1, -13}, {0, 1, 1, 1, max, -13}, {0, max, 1, 0, 1, -13},
            {0, max, 1, max, max, -13}, {0, min, 1, min, min, -13}, {0, 0, 1, max, 2, -13},
        };
        for (int[] w : wrong) {
            DUE.is("shift(" + w[0] + ", " + w[1] + ", " + w[2] + ", " + w[3] + ", " + w[4] + ")",
                    x.shift(w[0], w[1], w[2], w[3], w[4]), w[5]);
        }
        rowIs(x, 0, 1, 2, 3, 4, 5);
        rowIs(x, 1, 0, 0, 0);
    }

    private static void counts() {
        WinterShed x = new WinterShed();
        x.farm(1);
        x.farm(1);
        x.want(0, 1);
        x.feed('1');
        x.feed('2');
        x.feed('3');
        x.mend(0, 5, 1);
        x.mend(0, 5, 2);
        x.mend(0, 5, 3);
        x.mend(0, 5, 4);
        x.undo();
        for (int i = 0; i < 5; i++) {
            x.body(7);
        }
        x.act(0, 0, 0);
        int[] due = {2, 1, 3, 3, 5, 2};
        for (int what = 0; what < 6; what++) {
            DUE.is("count(" + what + ")", x.count(what), due[what]);
        }
        DUE.is("count(-1)", x.count(-1), -1);
        DUE.is("count(6)", x.count(6), -1);
    }
}
