/** Promises 1 to 6: a new object, farm, want, wants, mend, of. */
public final class FarmsTest {
    private static final Due DUE = new Due("farms");
    private static final int[] FIRST = {40, 200, 1, 0, 0};

    public static void main(String[] args) {
        aNewObject();
        farms();
        someWants();
        wantsFromRows();
        wantsThatEnd();
        mending();
        asking();
        DUE.end();
    }

    private static void aNewObject() {
        WinterShed x = new WinterShed();
        for (int what = 5; what <= 9; what++) {
            DUE.is("of(0, " + what + ")", x.of(0, what), FIRST[what - 5]);
        }
        for (int what = 0; what <= 5; what++) {
            DUE.is("count(" + what + ")", x.count(what), 0);
        }
        for (int what = 0; what <= 4; what++) {
            DUE.is("led(" + what + ")", x.led(what), 0);
        }
        for (int shelf = 0; shelf < 6; shelf++) {
            DUE.is("put(" + shelf + ", 0, 0)", x.put(shelf, 0, 0), -11);
        }
        DUE.is("undo()", x.undo(), -5);
        DUE.is("redo()", x.redo(), -5);
        DUE.is("back()", x.back(), -5);
        DUE.is("trace(0)", x.trace(0), -1);
    }

    private static void farms() {
        WinterShed x = new WinterShed();
        DUE.is("farm(-1)", x.farm(-1), -1);
        DUE.is("farm(10)", x.farm(10), -1);
        for (int f = 0; f < 6; f++) {
            DUE.is("farm " + f, x.farm(f == 5 ? 9 : f), f);
            DUE.is("of(f, 0)", x.of(f, 0), f == 5 ? 9 : f);
            DUE.is("of(f, 1)", x.of(f, 1), 1);
        }
        DUE.is("farm 6", x.farm(0), -3);
        DUE.is("farm(10) when full", x.farm(10), -1);
        DUE.is("count(0)", x.count(0), 6);
    }

    private static void someWants() {
        WinterShed x = new WinterShed();
        DUE.is("want of no farm", x.want(0, 1), -1);
        x.farm(1);
        x.farm(2);
        DUE.is("want(0, -1)", x.want(0, -1), -1);
        DUE.is("want(0, 100)", x.want(0, 100), -1);
        DUE.is("want(0, 125)", x.want(0, 125), -1);
        DUE.is("want(0, 3001)", x.want(0, 3001), -1);
        DUE.is("want(2, 1)", x.want(2, 1), -1);
        DUE.is("want(-1, 1)", x.want(-1, 1), -1);
        DUE.is("want(1, 2924)", x.want(1, 2924), 0);
        DUE.is("of(0, 2)", x.of(0, 2), 29);
        DUE.is("of(0, 3)", x.of(0, 3), 24);
        DUE.is("of(0, 4)", x.of(0, 4), 10);
        DUE.is("of(0, 10)", x.of(0, 10), 1);
        for (int w = 1; w < 12; w++) {
            DUE.is("want " + w, x.want(0, 1), w);
        }
        DUE.is("want 12", x.want(0, 1), -3);
        DUE.is("want(0, 0) when full", x.want(0, 0), -1);
        DUE.is("count(1)", x.count(1), 12);
        DUE.is("count(3): wants are no changes", x.count(3), 0);
    }

    private static void wantsFromRows() {
        WinterShed x = new WinterShed();
        x.farm(1);
        x.farm(2);
        DUE.is("wants(-1, 0, 1)", x.wants(-1, 0, 1), -1);
        DUE.is("wants(6, 0, 1)", x.wants(6, 0, 1), -1);
        DUE.is("wants(0, 0, 0)", x.wants(0, 0, 0), -1);
        DUE.is("wants(0, 0, 13)", x.wants(0, 0, 13), -1);
        DUE.is("wants of a missing row", x.wants(0, 0, 1), 0);
        x.keep(0, x.body(0));
        DUE.is("wants of a FROST", x.wants(0, 0, 1), -12);
        DUE.is("wants of a FROST, n 0", x.wants(0, 0, 0), -1);
        for (int sort = 1; sort <= 4; sort++) {
            x.row(0, sort, 8);
            DUE.is("wants of another sort", x.wants(0, 0, 1), -12);
        }
        Due.fill(x, 0, 0, 9, 0, 3, 24, 50, 1, 29, 1, 99, 0, 4);
        DUE.is("wants(0, 1, 12): within a four it ends", x.wants(0, 1, 12), 2);
        DUE.is("of(0, 10)", x.of(0, 10), 0);
        DUE.is("of(0, 2)", x.of(0, 2), 3);
        DUE.is("of(0, 3)", x.of(0, 3), 24);
        DUE.is("of(0, 4)", x.of(0, 4), 50);
        DUE.is("of(1, 10)", x.of(1, 10), 1);
        DUE.is("of(1, 4)", x.of(1, 4), 99);
        DUE.is("wants(0, 1, 1): n of them", x.wants(0, 1, 1), 1);
        DUE.is("count(1)", x.count(1), 3);
        for (int i : new int[] {-1, -4, 8, 11, 60, 61, Integer.MAX_VALUE, Integer.MIN_VALUE}) {
            DUE.is("wants(0, " + i + ", 12)", x.wants(0, i, 12), 0);
        }
        DUE.is("count(1) still", x.count(1), 3);
    }

    private static void wantsThatEnd() {
        long[][] wrong = {{2, 0, 1, 0}, {-1, 0, 1, 0}, {0, 30, 1, 0}, {0, -1, 1, 0}, {0, 0, 0, 0}, {0, 0, 25, 0},
            {0, 0, 1, 100}, {0, 0, 1, -1}};
        for (long[] one : wrong) {
            WinterShed x = new WinterShed();
            x.farm(0);
            x.farm(0);
            Due.fill(x, 2, 0, 1, 0, 1, 0, one[0], one[1], one[2], one[3], 0, 0, 1, 0);
            DUE.is("wants: one is not so", x.wants(2, 0, 3), 1);
            DUE.is("count(1): those ahead came", x.count(1), 1);
        }
        WinterShed x = new WinterShed();
        x.farm(0);
        Due.fill(x, 2, 0, 0, 0, 1, 0, 0, 0, 1, 0);
        for (int w = 0; w < 11; w++) {
            x.want(0, 1);
        }
        DUE.is("wants: FULL ends it", x.wants(2, 0, 2), 1);
        DUE.is("wants: FULL", x.wants(2, 0, 2), 0);
    }

    private static void mending() {
        int[] least = {0, 0, 0, 1, 0, 0, 1, 0, 0, 0};
        int[] most = {9, 9, 29, 24, 99, 999, 999, 9, 9, 29};
        int[] first = {3, 1, 2, 5, 10, 40, 200, 1, 0, 0};
        WinterShed x = new WinterShed();
        x.farm(3);
        x.want(0, 205);
        for (int what = 0; what < 10; what++) {
            String call = "mend(0, " + what + ", ..)";
            DUE.is(call + " below", x.mend(0, what, least[what] - 1), -1);
            DUE.is(call + " above", x.mend(0, what, most[what] + 1), -1);
            DUE.is(call + " of no such number", x.mend(1, what, least[what]), -1);
            DUE.is(call + " of -1", x.mend(-1, what, least[what]), -1);
            DUE.is("of(0, " + what + ")", x.of(0, what), first[what]);
            DUE.is(call + " least", x.mend(0, what, least[what]), first[what]);
            DUE.is(call + " most", x.mend(0, what, most[what]), least[what]);
            DUE.is("of(0, " + what + ") most", x.of(0, what), most[what]);
        }
        DUE.is("mend(0, 10, 0)", x.mend(0, 10, 0), -1);
        DUE.is("mend(0, -1, 0)", x.mend(0, -1, 0), -1);
        DUE.is("mend(0, 11, 0)", x.mend(0, 11, 0), -1);
    }

    private static void asking() {
        WinterShed x = new WinterShed();
        DUE.is("of(0, 0) without farms", x.of(0, 0), -1);
        DUE.is("of(0, 10) without wants", x.of(0, 10), -1);
        x.farm(3);
        DUE.is("of(0, 3) without wants", x.of(0, 3), -1);
        DUE.is("of(0, 11)", x.of(0, 11), -1);
        DUE.is("of(0, -1)", x.of(0, -1), -1);
        DUE.is("of(-1, 0)", x.of(-1, 0), -1);
        DUE.is("of(1, 9)", x.of(1, 9), -1);
    }
}
