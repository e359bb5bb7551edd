/** Boundaries of deeds, changes and images in the terms' part 4, and of promises 25 to 32. */
final class DeedEdges {
    private static Edges e;

    private DeedEdges() { }

    static void hold(Edges edges) {
        e = edges;
        e.of(Edges.TERMS);
        deeds();
        changes();
        deedsAreNone();
        images();
        e.told("Ahead of the calls `pass`, `bring`, `boards`, `led`, `image`, `back`, `undo`, `redo` the interface says: ---- in deed.");
        e.of(25);
        pass();
        e.of(26);
        bring();
        e.of(27);
        boards();
        e.of(28);
        led();
        e.of(29);
        image();
        e.of(30);
        back();
        e.of(31);
        undo();
        e.of(32);
        redo();
    }

    private static void ledIs(WinterShed x, int... due) {
        for (int what = 0; what < 5; what++) {
            e.is(x.led(what), due[what]);
        }
    }

    private static void deeds() {
        e.test("IN DEED: a day passes with hours LET OUT;", x -> {
            e.is(x.pass(4), 36);
            e.is(x.of(0, 9), 1);
            e.is(x.of(0, 5), 36);
            e.is(x.pass(0), 37);
            e.is(x.of(0, 9), 2);
        });
        e.test("snow is brought (COLD more);", x -> {
            e.is(x.bring(7), 47);
            e.is(x.of(0, 5), 47);
            e.is(x.of(0, 9), 0);
            e.is(x.led(0), 0);
        });
        e.test("BOARDS are mended (BEARS 10 more, 999 at most).", x -> {
            int[][] due = {{1, 11}, {988, 998}, {989, 999}, {990, 999}, {998, 999}, {999, 999}};
            for (int[] one : due) {
                x.mend(0, 6, one[0]);
                e.is(x.boards(), one[1]);
                e.is(x.of(0, 6), one[1]);
            }
        });
        e.test("LED: days, hours let out, GAIN, HARM, how often BOARDS GAVE.", x -> {
            x.farm(2);
            x.farm(1);
            x.want(0, 5);
            x.want(0, 6);
            x.want(1, 103);
            x.want(1, 2903);
            ledIs(x, 0, 0, 0, 0, 0);
            x.pass(6);
            ledIs(x, 1, 6, 20, 6, 0);
            x.pass(3);
            ledIs(x, 2, 9, 30, 12, 0);
            x.pass(0);
            ledIs(x, 3, 9, 30, 12, 0);
            x.mend(0, 6, 20);
            x.pass(1);
            ledIs(x, 3, 9, 30, 12, 0);
            x.pass(0);
            ledIs(x, 4, 9, 30, 12, 1);
            x.bring(50);
            x.pass(0);
            ledIs(x, 5, 9, 30, 12, 2);
        });
    }

    private static void changes() {
        e.test("CHANGES (all numbers of mend();", x -> {
            x.farm(0);
            x.want(0, 101);
            int[] first = {0, 1, 1, 1, 10, 40, 200, 1, 0, 0};
            for (int what = 0; what < 10; what++) {
                x.mend(0, what, 5);
                e.is(x.count(3), what + 1);
            }
            for (int what = 9; what >= 0; what--) {
                e.is(x.undo(), what);
                e.is(x.of(0, what), first[what]);
            }
            for (int what = 0; what < 10; what++) {
                e.is(x.redo(), 9 - what);
                e.is(x.of(0, what), 5);
            }
        });
        e.test("CHANGES (all numbers of mend();", x -> {
            for (int i = 0; i < 4; i++) {
                x.farm(i);
                x.want(0, 101 + i);
            }
            x.mend(3, 0, 9);
            x.mend(2, 1, 8);
            x.mend(1, 2, 7);
            x.mend(3, 3, 6);
            x.mend(2, 4, 5);
            int[][] is = {{3, 0, 9, 3}, {2, 1, 8, 1}, {1, 2, 7, 1}, {3, 3, 6, 4}, {2, 4, 5, 10}};
            for (int i = 4; i >= 0; i--) {
                e.is(x.of(is[i][0], is[i][1]), is[i][2]);
                e.is(x.undo(), i);
                e.is(x.of(is[i][0], is[i][1]), is[i][3]);
            }
            for (int i = 0; i < 5; i++) {
                e.is(x.redo(), 4 - i);
                e.is(x.of(is[i][0], is[i][1]), is[i][2]);
            }
        });
        e.test("telling the same number is none)", x -> {
            e.is(x.mend(0, 5, 40), 40);
            e.is(x.count(3), 0);
            e.is(x.undo(), Edges.STATE);
            x.mend(0, 5, 41);
            x.mend(0, 5, 41);
            e.is(x.count(3), 1);
            x.undo();
            x.mend(0, 6, 200);
            e.is(x.redo(), 0);
            e.is(x.of(0, 5), 41);
        });
        e.test("can be UNDONE, the latest first,", x -> {
            x.mend(0, 5, 1);
            x.mend(0, 7, 9);
            x.mend(0, 5, 2);
            e.is(x.undo(), 2);
            e.is(x.of(0, 5), 1);
            e.is(x.of(0, 7), 9);
            e.is(x.undo(), 1);
            e.is(x.of(0, 7), 1);
            e.is(x.undo(), 0);
            e.is(x.of(0, 5), 40);
        });
        e.test("and DONE AGAIN", x -> {
            x.mend(0, 5, 1);
            x.mend(0, 7, 9);
            x.undo();
            x.undo();
            e.is(x.redo(), 1);
            e.is(x.of(0, 5), 1);
            e.is(x.of(0, 7), 1);
            e.is(x.redo(), 0);
            e.is(x.of(0, 7), 9);
            e.is(x.undo(), 1);
            e.is(x.redo(), 0);
        });
        e.test("(as long as no other came behind);", x -> {
            x.mend(0, 5, 1);
            x.mend(0, 5, 2);
            x.undo();
            x.undo();
            x.mend(0, 8, 3);
            e.is(x.redo(), Edges.STATE);
            e.is(x.of(0, 5), 40);
            e.is(x.count(3), 1);
        });
        e.test("(as long as no other came behind);", x -> {
            x.mend(0, 5, 1);
            x.undo();
            x.mend(0, 5, 1000);
            x.farm(1);
            x.want(0, 1);
            x.feed('1');
            x.bring(1);
            x.image();
            e.is(x.redo(), 0);
            e.is(x.of(0, 5), 1);
        });
        e.test("40 at most are kept;", x -> {
            for (int v = 101; v <= 140; v++) {
                x.mend(0, 5, v);
            }
            e.is(x.count(3), 40);
            for (int i = 39; i >= 0; i--) {
                e.is(x.undo(), i);
            }
            e.is(x.of(0, 5), 40);
            e.is(x.undo(), Edges.STATE);
        });
        e.test("40 at most are kept;", x -> {
            for (int v = 101; v <= 141; v++) {
                x.mend(0, 5, v);
            }
            e.is(x.count(3), 40);
            for (int i = 39; i >= 0; i--) {
                e.is(x.undo(), i);
            }
            e.is(x.of(0, 5), 101);
            e.is(x.undo(), Edges.STATE);
            for (int i = 39; i >= 0; i--) {
                e.is(x.redo(), i);
                e.is(x.of(0, 5), 141 - i);
            }
            e.is(x.redo(), Edges.STATE);
        });
        e.test("40 at most are kept;", x -> {
            for (int f = 0; f < 3; f++) {
                x.farm(f);
            }
            // 44 changes of BEES and VOICES in turn, of farm after farm: the first four are forgotten.
            for (int i = 0; i < 44; i++) {
                x.mend(i / 2 % 3, i % 2, 9 - i / 6);
            }
            e.is(x.count(3), 40);
            for (int i = 43; i >= 4; i--) {
                e.is(x.of(i / 2 % 3, i % 2), 9 - i / 6);
                e.is(x.undo(), i - 4);
                e.is(x.of(i / 2 % 3, i % 2), i >= 6 ? 9 - (i - 6) / 6 : i % 2 == 0 ? i / 2 % 3 : 1);
            }
            e.is(x.undo(), Edges.STATE);
            e.is(x.of(0, 0), 9);
            e.is(x.of(1, 1), 9);
            for (int i = 4; i < 44; i++) {
                e.is(x.redo(), 43 - i);
                e.is(x.of(i / 2 % 3, i % 2), 9 - i / 6);
            }
        });
        e.test("40 at most are kept;", x -> {
            for (int v = 101; v <= 140; v++) {
                x.mend(0, 5, v);
            }
            x.undo();
            x.undo();
            x.mend(0, 6, 1);
            x.mend(0, 6, 2);
            e.is(x.count(3), 40);
            x.mend(0, 6, 3);
            e.is(x.count(3), 40);
            for (int i = 39; i >= 0; i--) {
                e.is(x.undo(), i);
            }
            e.is(x.of(0, 6), 200);
            e.is(x.of(0, 5), 101);
        });
    }

    private static void deedsAreNone() {
        e.test("deeds are none (COLD, BEARS, NOW by them, too).", x -> {
            x.pass(3);
            x.bring(5);
            x.boards();
            e.is(x.count(3), 0);
            e.is(x.undo(), Edges.STATE);
            e.is(x.of(0, 5), 42);
            e.is(x.of(0, 6), 210);
            e.is(x.of(0, 9), 1);
        });
        e.test("deeds are none (COLD, BEARS, NOW by them, too).", x -> {
            x.mend(0, 5, 50);
            x.mend(0, 6, 300);
            x.mend(0, 9, 3);
            x.pass(3);
            x.bring(5);
            x.boards();
            e.is(x.undo(), 2);
            e.is(x.of(0, 9), 0);
            e.is(x.of(0, 6), 310);
            e.is(x.of(0, 5), 52);
            e.is(x.undo(), 1);
            e.is(x.of(0, 6), 200);
            e.is(x.undo(), 0);
            e.is(x.of(0, 5), 40);
            x.bring(9);
            x.pass(1);
            e.is(x.redo(), 2);
            e.is(x.of(0, 5), 50);
        });
        e.test("deeds are none (COLD, BEARS, NOW by them, too).", x -> {
            x.farm(0);
            x.want(0, 1);
            x.body(0);
            x.row(0, 0, 1);
            Due.law(x, "0");
            e.is(x.undo(), Edges.STATE);
            e.is(x.count(0), 1);
            e.is(x.count(1), 1);
            e.is(x.count(4), 1);
        });
    }

    private static void images() {
        e.test("AN IMAGE keeps COLD, BEARS, NOW,", x -> {
            x.pass(3);
            x.boards();
            x.image();
            x.bring(9);
            x.boards();
            x.pass(24);
            e.is(x.back(), 1);
            e.is(x.of(0, 5), 37);
            e.is(x.of(0, 6), 210);
            e.is(x.of(0, 9), 1);
        });
        e.test("AN IMAGE keeps COLD, BEARS, NOW,", x -> {
            x.farm(1);
            x.want(0, 101);
            x.image();
            for (int what = 0; what < 10; what++) {
                x.mend(0, what, 9);
            }
            Due.law(x, "3");
            x.farm(2);
            x.back();
            // All else is no part of it.
            int[] due = {9, 9, 9, 9, 9, 40, 200, 9, 9, 0};
            for (int what = 0; what < 10; what++) {
                e.is(x.of(0, what), due[what]);
            }
            e.is(x.count(0), 2);
            e.is(x.idle(1), 43);
        });
        e.test("what LED tells", x -> {
            x.farm(1);
            x.want(0, 5);
            x.pass(6);
            x.mend(0, 6, 10);
            x.pass(0);
            x.image();
            ledIs(x, 2, 6, 10, 0, 1);
            x.want(0, 201);
            x.want(0, 301);
            x.bring(99);
            x.pass(0);
            x.mend(0, 5, 20);
            x.mend(0, 6, 20);
            x.pass(2);
            x.pass(1);
            ledIs(x, 5, 9, 20, 1, 2);
            x.back();
            ledIs(x, 2, 6, 10, 0, 1);
        });
        e.test("(laid back, CHANGES stay as they are).", x -> {
            x.mend(0, 5, 50);
            x.image();
            x.mend(0, 5, 60);
            x.mend(0, 5, 70);
            x.undo();
            e.is(x.back(), 0);
            e.is(x.of(0, 5), 50);
            e.is(x.count(3), 2);
            e.is(x.redo(), 0);
            e.is(x.of(0, 5), 70);
            e.is(x.undo(), 2);
            e.is(x.of(0, 5), 60);
            e.is(x.undo(), 1);
            e.is(x.of(0, 5), 50);
            e.is(x.undo(), 0);
            e.is(x.of(0, 5), 40);
        });
    }

    private static void pass() {
        e.test("A day passes with l hours LET OUT (0 .. 24): COLD then. BAD;", x -> {
            for (int l : new int[] {-1, 25, Integer.MIN_VALUE, Integer.MAX_VALUE}) {
                e.is(x.pass(l), Edges.BAD);
            }
            e.is(x.of(0, 9), 0);
            e.is(x.pass(0), 41);
            e.is(x.pass(24), 17);
            e.is(x.of(0, 9), 2);
        });
        e.test("STATE: it is day 29;", x -> {
            x.mend(0, 9, 28);
            e.is(x.pass(0), 41);
            e.is(x.of(0, 9), 29);
            e.is(x.pass(0), Edges.STATE);
            e.is(x.of(0, 9), 29);
            e.is(x.of(0, 5), 41);
            e.is(x.led(0), 1);
            // Of several answers the one named first.
            e.is(x.pass(25), Edges.BAD);
            x.mend(0, 5, 3);
            e.is(x.pass(4), Edges.STATE);
        });
        e.test("NOT: there is not so much", x -> {
            x.mend(0, 5, 20);
            e.is(x.pass(21), Edges.NOT);
            e.is(x.pass(20), 0);
            e.is(x.pass(1), Edges.NOT);
            e.is(x.pass(0), 1);
        });
        e.test("(nothing, if the BOARDS GIVE;", x -> {
            x.mend(0, 6, 40);
            e.is(x.pass(0), 41);
            e.is(x.pass(1), Edges.NOT);
            e.is(x.pass(24), Edges.NOT);
            e.is(x.pass(0), 1);
            e.is(x.led(4), 1);
            e.is(x.pass(1), 0);
        });
        e.test("nothing changes).", x -> {
            x.farm(1);
            x.mend(0, 5, 201);
            String before = Edges.all(x);
            e.is(x.pass(1), Edges.NOT);
            e.is(before.equals(Edges.all(x)) ? 1 : 0, 1);
            e.is(x.of(0, 5), 201);
            e.is(x.led(4), 0);
            x.mend(0, 5, 3);
            before = Edges.all(x);
            e.is(x.pass(4), Edges.NOT);
            e.is(before.equals(Edges.all(x)) ? 1 : 0, 1);
        });
    }

    private static void bring() {
        e.test("Snow is brought (1 .. 99 hours):", x -> {
            e.is(x.bring(0), Edges.BAD);
            e.is(x.bring(100), Edges.BAD);
            e.is(x.of(0, 5), 40);
            e.is(x.bring(1), 41);
            e.is(x.bring(99), 140);
        });
        e.test("COLD then (999 at most).", x -> {
            int[][] due = {{900, 999}, {899, 998}, {901, 999}, {999, 999}};
            for (int[] one : due) {
                x.mend(0, 5, one[0]);
                e.is(x.bring(99), one[1]);
                e.is(x.of(0, 5), one[1]);
            }
            // Above BEARS it stays there until the day begins.
            e.is(x.idle(0), 0);
        });
        e.test("BAD.", x -> {
            for (int hours : new int[] {-1, -99, Integer.MIN_VALUE, Integer.MAX_VALUE}) {
                e.is(x.bring(hours), Edges.BAD);
            }
            e.is(x.of(0, 5), 40);
        });
    }

    private static void boards() {
        e.test("BOARDS are mended: BEARS then.", x -> {
            e.is(x.boards(), 210);
            e.is(x.boards(), 220);
            e.is(x.of(0, 6), 220);
            e.is(x.of(0, 5), 40);
            e.is(x.of(0, 9), 0);
        });
    }

    private static void led() {
        e.test("LED: days (what 0), hours (1), GAIN (2), HARM (3), GAVE (4). BAD.", x -> {
            x.farm(3);
            x.farm(0);
            x.want(1, 1);
            x.pass(2);
            ledIs(x, 1, 2, 10, 6, 0);
            x.mend(0, 6, 1);
            x.pass(0);
            ledIs(x, 2, 2, 10, 6, 1);
            for (int what : new int[] {-1, 5, Integer.MIN_VALUE, Integer.MAX_VALUE}) {
                e.is(x.led(what), Edges.BAD);
            }
        });
        e.test("LED: days (what 0),", x -> {
            x.pass(1);
            x.mend(0, 9, 20);
            x.pass(1);
            x.mend(0, 9, 3);
            e.is(x.led(0), 2);
            e.is(x.led(1), 2);
        });
    }

    private static void image() {
        e.test("AN IMAGE is kept: NOW.", x -> {
            e.is(x.image(), 0);
            x.mend(0, 9, 29);
            e.is(x.image(), 29);
            x.mend(0, 9, 5);
            e.is(x.back(), 29);
        });
    }

    private static void back() {
        e.test("It is laid back: NOW.", x -> {
            x.image();
            x.pass(3);
            e.is(x.back(), 0);
            e.is(x.of(0, 9), 0);
            x.pass(3);
            x.pass(3);
            e.is(x.back(), 0);
            e.is(x.of(0, 5), 40);
            e.is(x.back(), 0);
        });
        e.test("STATE: there is none.", x -> {
            e.is(x.back(), Edges.STATE);
            x.pass(3);
            e.is(x.back(), Edges.STATE);
            e.is(x.of(0, 9), 1);
            x.image();
            e.is(x.back(), 1);
        });
    }

    private static void undo() {
        e.test("UNDONE: how many may still be.", x -> {
            x.mend(0, 5, 1);
            x.mend(0, 6, 2);
            x.mend(0, 7, 3);
            e.is(x.undo(), 2);
            e.is(x.undo(), 1);
            e.is(x.undo(), 0);
            e.is(x.count(3), 0);
        });
        e.test("STATE: none.", x -> {
            e.is(x.undo(), Edges.STATE);
            x.mend(0, 5, 1);
            e.is(x.undo(), 0);
            e.is(x.undo(), Edges.STATE);
            e.is(x.of(0, 5), 40);
            e.is(x.redo(), 0);
        });
    }

    private static void redo() {
        e.test("DONE AGAIN: how many may still be.", x -> {
            x.mend(0, 5, 1);
            x.mend(0, 6, 2);
            x.mend(0, 7, 3);
            x.undo();
            x.undo();
            x.undo();
            e.is(x.redo(), 2);
            e.is(x.redo(), 1);
            e.is(x.redo(), 0);
            e.is(x.count(3), 3);
        });
        e.test("STATE: none.", x -> {
            e.is(x.redo(), Edges.STATE);
            x.mend(0, 5, 1);
            e.is(x.redo(), Edges.STATE);
            x.undo();
            e.is(x.redo(), 0);
            e.is(x.redo(), Edges.STATE);
            e.is(x.of(0, 5), 1);
        });
    }
}
