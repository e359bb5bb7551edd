/** Boundaries of shelves, wants from rows and answers in the terms' part 5, and of promises 36 to 40. */
final class ShelfEdges {
    private static final int[] WRONG_SHELVES = {-1, 6, Integer.MIN_VALUE, Integer.MAX_VALUE};
    private static Edges e;

    private ShelfEdges() { }

    static void hold(Edges edges) {
        e = edges;
        e.of(Edges.TERMS);
        shelves();
        lowestBits();
        refusals();
        wantsFromRows();
        wantsThatEnd();
        answers();
        e.told("Ahead of the calls `body`, `act`, `trace`, `keep`, `row`, `put`, `element`, `shift`, `taken`, `count` the interface says: ---- acts, shelves.");
        e.of(36);
        keep();
        e.of(37);
        row();
        e.of(38);
        put();
        e.of(39);
        element();
        e.of(40);
        shift();
        shiftRefused();
    }

    private static void rowIs(WinterShed x, int shelf, long... due) {
        for (int i = 0; i < due.length; i++) {
            e.is(x.element(shelf, i), due[i]);
        }
        e.is(x.element(shelf, due.length), Edges.NONE);
    }

    private static void shelves() {
        e.test("SHELVES 0 .. 5 each hold nothing (at first),", x -> {
            for (int shelf = 0; shelf < 6; shelf++) {
                e.is(x.put(shelf, 0, 1), Edges.MISSING);
                e.is(x.taken(shelf, 0), Edges.MISSING);
                e.is(x.row(shelf, 2, 1), 1);
                e.is(x.put(shelf, 0, shelf), 1);
            }
            for (int shelf = 0; shelf < 6; shelf++) {
                e.is(x.element(shelf, 0), shelf);
            }
            e.is(x.row(-1, 2, 1), Edges.BAD);
            e.is(x.row(6, 2, 1), Edges.BAD);
        });
        e.test("a FROST (a BODY), or a ROW:", x -> {
            x.body(1);
            x.keep(0, 0);
            e.is(x.taken(0, 0), 1);
            e.is(x.put(0, 0, 1), Edges.OTHER);
            x.row(0, 0, 1);
            e.is(x.taken(0, 0), Edges.OTHER);
            e.is(x.put(0, 0, 1), 1);
            x.keep(0, -1);
            e.is(x.taken(0, 0), Edges.MISSING);
            e.is(x.put(0, 0, 1), Edges.MISSING);
        });
        e.test("of 0 bytes, 1 shorts, 2 ints, 3 longs, 4 booleans,", x -> {
            long[] due = {-128, 384, 128 + 256, 128 + 256, 1};
            for (int sort = 0; sort < 5; sort++) {
                e.is(x.row(sort, sort, 1), 1);
                x.put(sort, 0, 128 + 256);
                e.is(x.element(sort, 0), due[sort]);
            }
            e.is(x.row(0, -1, 1), Edges.BAD);
            e.is(x.row(0, 5, 1), Edges.BAD);
        });
        e.test("of 0 .. 60 elements,", x -> {
            e.is(x.row(0, 0, -1), Edges.BELOW);
            e.is(x.row(0, 0, 61), Edges.BAD);
            for (int n : new int[] {0, 1, 59, 60}) {
                e.is(x.row(0, 3, n), 1);
                e.is(x.put(0, n - 1, 7), n == 0 ? Edges.PLACE : 1);
                e.is(x.put(0, n, 7), Edges.PLACE);
            }
        });
        e.test("0 at first (false);", x -> {
            for (int sort = 0; sort < 5; sort++) {
                x.row(0, sort, 60);
                for (int i = 0; i < 60; i += 59) {
                    e.is(x.element(0, i), 0);
                    x.put(0, i, 1);
                }
            }
            x.row(0, 0, 1);
            x.row(0, 0, 60);
            e.is(x.element(0, 59), 0);
        });
    }

    private static void lowestBits() {
        e.test("what is put in keeps its lowest bits", x -> {
            long[][] due = {
                {127, 127, 127, 127, 127}, {128, -128, 128, 128, 128}, {255, -1, 255, 255, 255}, {256, 0, 256, 256, 256},
                {-128, -128, -128, -128, -128}, {-129, 127, -129, -129, -129}, {32767, -1, 32767, 32767, 32767},
                {32768, 0, -32768, 32768, 32768}, {65536, 0, 0, 65536, 65536}, {-32769, -1, 32767, -32769, -32769},
                {0x7FFFFFFFL, -1, -1, 0x7FFFFFFFL, 0x7FFFFFFFL}, {0x80000000L, 0, 0, Integer.MIN_VALUE, 0x80000000L},
                {0x100000000L, 0, 0, 0, 0x100000000L}, {Long.MAX_VALUE, -1, -1, -1, Long.MAX_VALUE},
                {Long.MIN_VALUE + 1, 1, 1, 1, Long.MIN_VALUE + 1}, {Long.MIN_VALUE, 0, 0, 0, Long.MIN_VALUE},
            };
            for (int sort = 0; sort < 4; sort++) {
                x.row(sort, sort, 1);
                for (long[] one : due) {
                    e.is(x.put(sort, 0, one[0]), 1);
                    e.is(x.element(sort, 0), one[1 + sort]);
                }
            }
        });
        e.test("(a boolean: whether it is not 0; 1 or 0).", x -> {
            x.row(0, 4, 1);
            for (long v : new long[] {1, 2, 256, -1, 0x100000000L, Long.MIN_VALUE, Long.MAX_VALUE}) {
                x.put(0, 0, v);
                e.is(x.element(0, 0), 1);
                x.put(0, 0, 0);
                e.is(x.element(0, 0), 0);
            }
        });
    }

    private static void refusals() {
        e.test("The host's REFUSALS: -11 nothing is there where something is wanted;", x -> {
            e.is(x.cold(0, 0), Edges.MISSING);
            e.is(x.judge(0), Edges.MISSING);
            e.is(x.put(0, 0, 0), Edges.MISSING);
            e.is(x.taken(0, 0), Edges.MISSING);
            e.is(x.shift(0, 0, 0, 0, 0), Edges.MISSING);
        });
        e.test("-12 it is of another kind;", x -> {
            x.keep(0, x.body(0));
            e.is(x.cold(0, 0), Edges.OTHER);
            e.is(x.judge(0), Edges.OTHER);
            e.is(x.put(0, 0, 0), Edges.OTHER);
            e.is(x.taken(0, 1), Edges.OTHER);
            e.is(x.shift(0, 0, 0, 0, 0), Edges.OTHER);
        });
        e.test("-13 a place that is not there;", x -> {
            x.row(0, 0, 2);
            e.is(x.put(0, 2, 0), Edges.PLACE);
            e.is(x.put(0, -1, 0), Edges.PLACE);
            e.is(x.shift(0, 1, 0, 0, 2), Edges.PLACE);
        });
        e.test("-14 a size below 0.", x -> {
            e.is(x.row(0, 0, -1), Edges.BELOW);
            e.is(x.row(0, 4, Integer.MIN_VALUE), Edges.BELOW);
        });
    }

    private static void wantsFromRows() {
        e.test("WANTS FROM A ROW of bytes, from a place on: by fours FARM, DAY, HOURS, GAIN: n of them;", x -> {
            x.farm(0);
            x.farm(0);
            Due.fill(x, 2, 0, 77, 1, 29, 24, 99, 0, 0, 1, 0, 1, 3, 4, 5);
            e.is(x.wants(2, 1, 2), 2);
            e.is(x.count(1), 2);
            int[][] due = {{1, 29, 24, 99}, {0, 0, 1, 0}};
            for (int w = 0; w < 2; w++) {
                e.is(x.of(w, 10), due[w][0]);
                e.is(x.of(w, 2), due[w][1]);
                e.is(x.of(w, 3), due[w][2]);
                e.is(x.of(w, 4), due[w][3]);
            }
            e.is(x.wants(2, 1, 3), 3);
            e.is(x.count(1), 5);
        });
        e.test("it ends where the row is missing,", x -> {
            x.farm(0);
            e.is(x.wants(0, 0, 1), 0);
            e.is(x.wants(0, 0, 12), 0);
            e.is(x.count(1), 0);
        });
        e.test("ends (at a place below 0, too;", x -> {
            x.farm(0);
            Due.fill(x, 0, 0, 0, 0, 1, 0, 0, 0, 1, 0);
            for (int i : new int[] {-1, -4, -8, Integer.MIN_VALUE, Integer.MIN_VALUE + 3}) {
                e.is(x.wants(0, i, 2), 0);
            }
            for (int i : new int[] {8, 9, 60, Integer.MAX_VALUE, Integer.MAX_VALUE - 3}) {
                e.is(x.wants(0, i, 2), 0);
            }
            e.is(x.count(1), 0);
            e.is(x.wants(0, 4, 12), 1);
            e.is(x.wants(0, 0, 12), 2);
            x.row(0, 0, 0);
            e.is(x.wants(0, 0, 1), 0);
        });
        e.test("within a four, too),", x -> {
            x.farm(0);
            Due.fill(x, 0, 0, 0, 0, 1, 0, 0, 0, 1);
            e.is(x.wants(0, 0, 2), 1);
            for (int i = 4; i <= 7; i++) {
                e.is(x.wants(0, i, 1), 0);
            }
            Due.fill(x, 0, 0, 0, 0, 1);
            e.is(x.wants(0, 0, 1), 0);
            e.is(x.count(1), 1);
        });
    }

    private static void wantsThatEnd() {
        e.test("one is not so,", x -> {
            int[][] wrong = {{1, 0, 1, 0}, {-1, 0, 1, 0}, {6, 0, 1, 0}, {0, 30, 1, 0}, {0, -1, 1, 0}, {0, 0, 0, 0}, {0, 0, 25, 0},
                {0, 0, -1, 0}, {0, 0, 1, 100}, {0, 0, 1, -1}, {0, 0, 1, 127}, {0, -128, 1, 0}};
            for (int[] one : wrong) {
                WinterShed y = new WinterShed();
                y.farm(0);
                Due.fill(y, 0, 0, 0, 7, 1, 0, one[0], one[1], one[2], one[3], 0, 8, 1, 0);
                e.is(y.wants(0, 0, 3), 1);
                e.is(y.count(1), 1);
                e.is(y.of(0, 2), 7);
                e.is(y.wants(0, 4, 1), 0);
                e.is(y.wants(0, 8, 1), 1);
            }
        });
        e.test("or WANTS are FULL:", x -> {
            x.farm(0);
            Due.fill(x, 0, 0, 0, 0, 1, 0, 0, 5, 2, 3);
            for (int w = 0; w < 11; w++) {
                x.want(0, 1);
            }
            e.is(x.wants(0, 0, 2), 1);
            e.is(x.count(1), 12);
            e.is(x.wants(0, 0, 2), 0);
            e.is(x.wants(0, 0, 13), Edges.BAD);
        });
        e.test("those ahead came.", x -> {
            x.farm(0);
            Due.fill(x, 0, 0, 0, 3, 2, 1, 0, 4, 3, 2, 0, 5, 4);
            e.is(x.wants(0, 0, 12), 2);
            e.is(x.of(0, 2), 3);
            e.is(x.of(1, 2), 4);
            e.is(x.of(1, 4), 2);
            e.is(x.count(3), 0);
        });
    }

    private static void answers() {
        e.test("Answers, of several the one named first:", x -> {
            e.is(x.cold(0, 31), Edges.BAD);
            e.is(x.knock(0, 4), Edges.BAD);
            e.is(x.taken(0, 8), Edges.BAD);
            e.is(x.row(0, 9, -1), Edges.BAD);
            e.is(x.row(6, 0, -1), Edges.BAD);
            x.mend(0, 9, 29);
            e.is(x.pass(25), Edges.BAD);
            for (int i = 0; i < 6; i++) {
                x.farm(0);
            }
            e.is(x.farm(10), Edges.BAD);
        });
        e.test("Answers, of several the one named first:", x -> {
            x.keep(0, x.body(0));
            e.is(x.shift(0, -1, 1, -1, -1), Edges.MISSING);
            e.is(x.shift(1, -1, 0, -1, -1), Edges.MISSING);
            x.row(1, 0, 1);
            e.is(x.shift(0, -1, 1, -1, -1), Edges.OTHER);
            e.is(x.shift(1, -1, 6, -1, -1), Edges.BAD);
            e.is(x.put(0, -1, 0), Edges.OTHER);
            e.is(x.put(2, -1, 0), Edges.MISSING);
        });
        e.test("BAD (-1): no such number, or it is not as said;", x -> {
            e.is(WinterShed.BAD, -1);
            e.is(x.of(0, 0), -1);
            e.is(x.farm(10), -1);
        });
        e.test("NOT (-2): as told;", x -> {
            e.is(WinterShed.NOT, -2);
            e.is(x.all(0), -2);
        });
        e.test("FULL (-3);", x -> {
            e.is(WinterShed.FULL, -3);
            for (int f = 0; f < 6; f++) {
                x.farm(0);
            }
            e.is(x.farm(0), -3);
        });
        e.test("STATE (-5): as told;", x -> {
            e.is(WinterShed.STATE, -5);
            e.is(x.back(), -5);
        });
        e.test("-11 to -14.", x -> {
            e.is(x.put(0, 0, 0), -11);
            x.row(0, 0, 0);
            e.is(x.judge(0), -12);
            e.is(x.put(0, 0, 0), -13);
            e.is(x.row(0, 0, -1), -14);
        });
        e.test("VOID is -2000000000.", x -> {
            e.is(WinterShed.VOID, -2000000000);
            e.is(x.best(0, 0), -2000000000);
        });
        e.test("What is answered so changes nothing.", ShelfEdges::refusedCallsChangeNothing);
        e.test("All memory is the class's own.", x -> {
            WinterShed y = new WinterShed();
            x.farm(1);
            y.farm(2);
            x.mend(0, 5, 100);
            y.row(0, 0, 1);
            y.put(0, 0, 9);
            Due.law(y, "5");
            y.body(7);
            y.image();
            e.is(x.of(0, 0), 1);
            e.is(y.of(0, 0), 2);
            e.is(y.of(0, 5), 40);
            e.is(x.put(0, 0, 0), Edges.MISSING);
            e.is(x.idle(1), 101);
            e.is(y.idle(1), 45);
            e.is(x.count(4), 0);
            e.is(y.count(3), 0);
            e.is(x.back(), Edges.STATE);
        });
    }

    private static void refusedCallsChangeNothing(WinterShed x) {
        x.farm(1);
        x.want(0, 101);
        x.mend(0, 5, 50);
        Due.fill(x, 0, 0, 1, 2);
        x.keep(1, x.body(0));
        x.act(0, 3, 1);
        x.feed('1');
        x.mend(0, 9, 29);
        String before = Edges.all(x);
        long[] got = {
            x.farm(10), x.want(0, 100), x.want(1, 101), x.wants(6, 0, 1), x.wants(1, 0, 1), x.mend(0, 0, 10), x.mend(0, 10, 1),
            x.feed(256), x.feed(-1), x.cold(2, 29), x.best(0, 0), x.pass(25), x.pass(0), x.bring(0), x.bring(100), x.back(), x.redo(),
            x.body(8), x.keep(0, 1), x.keep(6, -1), x.keep(0, -2), x.row(0, 5, 1), x.row(0, 0, 61), x.row(0, 0, -1), x.put(0, 2, 9),
            x.put(1, 0, 9), x.shift(0, 0, 0, 1, 2), x.shift(0, 0, 1, 0, 1), x.drawn(1, 1, 10100, 0), x.byTurns(0, 11, 0),
        };
        for (long one : got) {
            e.is(one < 0 ? 1 : 0, 1);
        }
        e.is(before.equals(Edges.all(x)) ? 1 : 0, 1);
        e.is(x.count(3), 2);
        e.is(x.count(2), 1);
    }

    private static void keep() {
        e.test("A SHELF holds nothing (body -1), or a FROST: 1.", x -> {
            e.is(x.keep(0, -1), 1);
            e.is(x.taken(0, 0), Edges.MISSING);
            x.body(4);
            e.is(x.keep(5, 0), 1);
            e.is(x.taken(5, 1), 4);
            e.is(x.keep(5, -1), 1);
            e.is(x.taken(5, 1), Edges.MISSING);
        });
        e.test("BAD.", x -> {
            e.is(x.keep(0, 0), Edges.BAD);
            x.body(0);
            for (int body : new int[] {-2, 1, 50, Integer.MIN_VALUE, Integer.MAX_VALUE}) {
                e.is(x.keep(0, body), Edges.BAD);
            }
            for (int shelf : WRONG_SHELVES) {
                e.is(x.keep(shelf, 0), Edges.BAD);
                e.is(x.keep(shelf, -1), Edges.BAD);
            }
            e.is(x.taken(0, 0), Edges.MISSING);
        });
    }

    private static void row() {
        e.test("A SHELF holds a ROW: 1.", x -> {
            e.is(x.row(5, 2, 3), 1);
            rowIs(x, 5, 0, 0, 0);
            x.put(5, 1, 7);
            e.is(x.row(5, 3, 2), 1);
            rowIs(x, 5, 0, 0);
        });
        e.test("BAD (sort, n above 60);", x -> {
            for (int sort : new int[] {-1, 5, Integer.MIN_VALUE, Integer.MAX_VALUE}) {
                e.is(x.row(0, sort, 1), Edges.BAD);
            }
            e.is(x.row(0, 0, 61), Edges.BAD);
            e.is(x.row(0, 0, Integer.MAX_VALUE), Edges.BAD);
            for (int shelf : WRONG_SHELVES) {
                e.is(x.row(shelf, 0, 1), Edges.BAD);
            }
            e.is(x.put(0, 0, 0), Edges.MISSING);
            e.is(x.row(0, 0, 60), 1);
        });
        e.test("-14.", x -> {
            x.row(0, 2, 1);
            e.is(x.row(0, 0, -1), Edges.BELOW);
            e.is(x.row(0, 0, Integer.MIN_VALUE), Edges.BELOW);
            e.is(x.row(1, 4, -60), Edges.BELOW);
            rowIs(x, 0, 0);
            e.is(x.put(1, 0, 0), Edges.MISSING);
            e.is(x.row(0, 5, -1), Edges.BAD);
            e.is(x.row(-1, 0, -1), Edges.BAD);
        });
    }

    private static void put() {
        e.test("Element i of a ROW becomes v: 1.", x -> {
            x.row(0, 3, 3);
            e.is(x.put(0, 1, -5), 1);
            rowIs(x, 0, 0, -5, 0);
            e.is(x.put(0, 0, 8), 1);
            e.is(x.put(0, 2, 9), 1);
            rowIs(x, 0, 8, -5, 9);
        });
        e.test("BAD, -11, -12, -13.", x -> {
            for (int shelf : WRONG_SHELVES) {
                e.is(x.put(shelf, 0, 0), Edges.BAD);
            }
            e.is(x.put(0, -1, 0), Edges.MISSING);
            x.keep(0, x.body(0));
            e.is(x.put(0, -1, 0), Edges.OTHER);
            x.row(0, 0, 3);
            for (int i : new int[] {-1, 3, 59, 60, Integer.MIN_VALUE, Integer.MAX_VALUE}) {
                e.is(x.put(0, i, 1), Edges.PLACE);
            }
            rowIs(x, 0, 0, 0, 0);
        });
    }

    private static void element() {
        e.test("Element i of a ROW;", x -> {
            Due.fill(x, 4, 3, 5, Long.MAX_VALUE, -6);
            rowIs(x, 4, 5, Long.MAX_VALUE, -6);
        });
        e.test("Long.MIN_VALUE: BAD, -11 to -13.", x -> {
            for (int shelf : WRONG_SHELVES) {
                e.is(x.element(shelf, 0), Edges.NONE);
            }
            e.is(x.element(0, 0), Edges.NONE);
            x.keep(0, x.body(0));
            e.is(x.element(0, 0), Edges.NONE);
            x.row(0, 0, 3);
            for (int i : new int[] {-1, 3, 59, 60, Integer.MIN_VALUE, Integer.MAX_VALUE}) {
                e.is(x.element(0, i), Edges.NONE);
            }
            e.is(x.element(0, 2), 0);
        });
    }

    private static void shift() {
        e.test("n elements of a ROW from i on come to another one", x -> {
            Due.fill(x, 0, 3, 1, 2, 3, 4, 5);
            Due.fill(x, 1, 3, 6, 7, 8, 9);
            e.is(x.shift(0, 1, 1, 2, 2), 2);
            rowIs(x, 1, 6, 7, 2, 3);
            rowIs(x, 0, 1, 2, 3, 4, 5);
            e.is(x.shift(0, 0, 1, 0, 4), 4);
            rowIs(x, 1, 1, 2, 3, 4);
            for (int sort = 0; sort < 5; sort++) {
                Due.fill(x, 2, sort, 1, 0, 1);
                Due.fill(x, 3, sort, 0, 0, 0);
                e.is(x.shift(2, 0, 3, 0, 3), 3);
                rowIs(x, 3, 1, 0, 1);
            }
        });
        e.test("(or the same) from j on, as they all were before:", x -> {
            Due.fill(x, 0, 0, 1, 2, 3, 4, 5);
            e.is(x.shift(0, 0, 0, 1, 4), 4);
            rowIs(x, 0, 1, 1, 2, 3, 4);
            Due.fill(x, 0, 0, 1, 2, 3, 4, 5);
            e.is(x.shift(0, 1, 0, 0, 4), 4);
            rowIs(x, 0, 2, 3, 4, 5, 5);
            e.is(x.shift(0, 0, 0, 0, 5), 5);
            rowIs(x, 0, 2, 3, 4, 5, 5);
        });
        e.test("n. BAD,", x -> {
            x.row(0, 0, 2);
            e.is(x.shift(0, 0, 0, 0, 0), 0);
            e.is(x.shift(0, 2, 0, 2, 0), 0);
            for (int shelf : WRONG_SHELVES) {
                e.is(x.shift(shelf, 0, 0, 0, 1), Edges.BAD);
                e.is(x.shift(0, 0, shelf, 0, 1), Edges.BAD);
                e.is(x.shift(shelf, 0, 5, 0, 1), Edges.BAD);
                e.is(x.shift(5, 0, shelf, 0, 1), Edges.BAD);
            }
        });
    }

    private static void shiftRefused() {
        e.test("-11 (either),", x -> {
            x.row(0, 0, 2);
            x.keep(1, x.body(0));
            e.is(x.shift(5, 0, 0, 0, 1), Edges.MISSING);
            e.is(x.shift(0, 0, 5, 0, 1), Edges.MISSING);
            e.is(x.shift(1, 0, 5, 0, 1), Edges.MISSING);
            e.is(x.shift(5, 0, 1, 0, 1), Edges.MISSING);
            e.is(x.shift(4, 9, 5, 9, 9), Edges.MISSING);
        });
        e.test("-12 (no ROWS, or of unlike sorts),", x -> {
            x.keep(5, x.body(0));
            for (int sort = 0; sort < 5; sort++) {
                x.row(sort, sort, 2);
            }
            for (int from = 0; from < 6; from++) {
                for (int to = 0; to < 6; to++) {
                    e.is(x.shift(from, 0, to, 0, 1), from == to && from < 5 ? 1 : Edges.OTHER);
                    e.is(x.shift(from, -1, to, 0, 1), from == to && from < 5 ? Edges.PLACE : Edges.OTHER);
                }
            }
        });
        e.test("-13.", x -> {
            int max = Integer.MAX_VALUE;
            int min = Integer.MIN_VALUE;
            Due.fill(x, 0, 2, 1, 2, 3, 4, 5);
            Due.fill(x, 1, 2, 6, 7, 8);
            int[][] wrong = {{-1, 0, 1}, {0, -1, 1}, {3, 0, 3}, {0, 1, 3}, {5, 0, 1}, {0, 3, 1}, {6, 0, 0}, {0, 4, 0}, {-1, 0, 0}, {0, -1, 0},
                {0, 0, 4}, {0, 0, -1}, {1, 1, max}, {max, 0, 1}, {0, max, 1}, {max, max, max}, {min, min, min}, {0, 0, min}, {max, 0, 0}, {2, 2, max - 1}};
            for (int[] w : wrong) {
                e.is(x.shift(0, w[0], 1, w[1], w[2]), Edges.PLACE);
            }
            rowIs(x, 0, 1, 2, 3, 4, 5);
            rowIs(x, 1, 6, 7, 8);
            e.is(x.shift(0, 5, 1, 3, 0), 0);
            e.is(x.shift(0, 2, 1, 0, 3), 3);
        });
    }
}
