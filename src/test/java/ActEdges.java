/** Boundaries of acts in the terms' part 5, and of promises 33 to 35, 41 and 42. */
final class ActEdges {
    /** ACTS by their numbers. */
    private static final int LETS = 0, GROWS = 1, LEAKS = 2, TELLS = 3;
    private static Edges e;

    private ActEdges() { }

    static void hold(Edges edges) {
        e = edges;
        e.of(Edges.TERMS);
        e.told("======== 5");
        kinds();
        numbers();
        frosts();
        children();
        grandchildren();
        traces();
        e.of(33);
        body();
        e.of(34);
        act();
        e.of(35);
        trace();
        e.of(41);
        taken();
        e.of(42);
        count();
    }

    /** Bodies 0 to 7 of KINDS 0 to 7. */
    private static void oneOfEach(WinterShed x) {
        for (int kind = 0; kind < 8; kind++) {
            x.body(kind);
        }
    }

    /** An act with 5, and the whole TRACE that it leaves. */
    private static void actIs(WinterShed x, int body, int act, int due, int... trace) {
        e.is(x.act(body, act, 5), due);
        e.is(x.count(5), trace.length);
        for (int i = 0; i < trace.length; i++) {
            e.is(x.trace(i), trace[i]);
        }
        e.is(x.trace(trace.length), Edges.BAD);
    }

    private static void kinds() {
        e.test("FROSTS' ways are kept by call as BODIES 0 .. 49,", x -> {
            for (int n = 0; n < 50; n++) {
                e.is(x.body(0), n);
            }
            e.is(x.body(0), Edges.FULL);
            e.is(x.count(4), 50);
            e.is(x.act(49, LETS, 1), 50);
            e.is(x.act(50, LETS, 1), 0);
        });
        e.test("of KINDS: 0 FROST; 1 BOY under FROST; 2 BRIDE under FROST; 3 NIGHT under BRIDE; 4 DARK under BOY; 5 WOLF under NIGHT; 6 BOARD under FROST; 7 STRAW under DARK.", x -> {
            // Of each KIND the KINDS that it is or stands under.
            int[][] above = {{0}, {1, 0}, {2, 0}, {3, 2, 0}, {4, 1, 0}, {5, 3, 2, 0}, {6, 0}, {7, 4, 1, 0}};
            oneOfEach(x);
            for (int kind = 0; kind < 8; kind++) {
                x.keep(0, kind);
                int bits = 0;
                for (int k : above[kind]) {
                    bits |= 1 << k;
                }
                for (int k = 0; k < 8; k++) {
                    e.is(x.taken(0, k), (bits >> k & 1) == 1 ? kind : Edges.OTHER);
                }
            }
        });
    }

    private static void numbers() {
        e.test("ACTS with x (an int that wraps):", x -> {
            x.body(0);
            x.body(0);
            int max = Integer.MAX_VALUE;
            int min = Integer.MIN_VALUE;
            e.is(x.act(1, LETS, max), min);
            e.is(x.act(1, GROWS, max), 0);
            e.is(x.act(0, GROWS, 1 << 30), min);
            e.is(x.act(0, LEAKS, min), min);
            e.is(x.act(1, TELLS, max), 0);
            x.body(2);
            x.body(3);
            e.is(x.act(3, GROWS, max), -((max + 1 + 3) * 2));
            e.is(x.act(3, LEAKS, max), (max ^ 3) * 3);
        });
        e.test("0 lets out, 1 grows, 2 leaks, 3 tells;", x -> {
            x.body(0);
            x.body(0);
            e.is(x.act(1, 0, 5), 6);
            e.is(x.act(1, 1, 5), 12);
            e.is(x.act(1, 2, 5), 4);
            e.is(x.act(1, 3, 5), 12);
            e.is(x.act(1, 4, 5), 0);
            e.is(x.act(1, -1, 5), 0);
        });
        e.test("n its number.", x -> {
            x.body(0);
            x.body(0);
            x.body(0);
            for (int n = 0; n < 3; n++) {
                e.is(x.act(n, LETS, 10), 10 + n);
                e.is(x.act(n, LEAKS, 10), 10 ^ n);
            }
        });
    }

    private static void frosts() {
        e.test("BODIES of acts: LETS (an interface of FROST): 1 lets: x + n.", x -> {
            oneOfEach(x);
            x.body(0);
            actIs(x, 8, LETS, 13, 1);
            actIs(x, 2, LETS, 7, 1);
            actIs(x, 3, LETS, 8, 1);
            actIs(x, 5, LETS, 10, 1);
        });
        e.test("FROST: 10 grows: lets(x) * 2.", x -> {
            oneOfEach(x);
            x.body(0);
            actIs(x, 8, GROWS, 26, 10, 1);
            actIs(x, 1, GROWS, 18, 10, 20, 1);
            actIs(x, 4, GROWS, 24, 10, 20, 1);
            actIs(x, 6, GROWS, 44, 10, 70, 1);
        });
        e.test("11 leaks: x ^ n.", x -> {
            oneOfEach(x);
            x.body(0);
            actIs(x, 8, LEAKS, 13, 11);
            actIs(x, 1, LEAKS, 4, 11);
            actIs(x, 2, LEAKS, 7, 11);
            actIs(x, 6, LEAKS, 3, 11);
        });
        e.test("TELLS (of FROST): 2 tells: grows(x) - leaks(1).", x -> {
            oneOfEach(x);
            x.body(0);
            actIs(x, 8, TELLS, 26 - 9, 2, 10, 1, 11);
            actIs(x, 1, TELLS, 18, 2, 10, 20, 1, 11);
            actIs(x, 2, TELLS, -14 - 3, 2, 30, 10, 1, 11);
            actIs(x, 3, TELLS, -18 - 6, 2, 41, 30, 10, 1, 40, 11);
            actIs(x, 4, TELLS, 24 + 4, 2, 10, 20, 1, 50, 11, 20, 1);
            actIs(x, 6, TELLS, 44 - 7, 2, 10, 70, 1, 11);
        });
    }

    private static void children() {
        e.test("BOY: 20 lets: super.lets(x) + 3.", x -> {
            oneOfEach(x);
            actIs(x, 1, LETS, 9, 20, 1);
            actIs(x, 4, LETS, 12, 20, 1);
            actIs(x, 7, LETS, 15, 20, 1);
        });
        e.test("BRIDE: 30 grows: -super.grows(x).", x -> {
            oneOfEach(x);
            actIs(x, 2, GROWS, -14, 30, 10, 1);
        });
        e.test("BOARD: 70 lets: super.lets(x) * 2.", x -> {
            oneOfEach(x);
            actIs(x, 6, LETS, 22, 70, 1);
        });
    }

    private static void grandchildren() {
        e.test("NIGHT: 40 leaks: super.leaks(x) * 3.", x -> {
            oneOfEach(x);
            actIs(x, 3, LEAKS, 18, 40, 11);
            actIs(x, 5, LEAKS, 0, 40, 11);
        });
        e.test("41 grows: super.grows(x + 1).", x -> {
            oneOfEach(x);
            actIs(x, 3, GROWS, -18, 41, 30, 10, 1);
            actIs(x, 5, GROWS, -22, 41, 30, 10, 1);
        });
        e.test("DARK: 50 leaks: super.leaks(x) - lets(2).", x -> {
            oneOfEach(x);
            actIs(x, 4, LEAKS, 1 - 9, 50, 11, 20, 1);
            actIs(x, 7, LEAKS, 2 - 12, 50, 11, 20, 1);
        });
        e.test("WOLF: 60 tells: super.tells(x) ^ 5.", x -> {
            oneOfEach(x);
            actIs(x, 5, TELLS, (-22 - 12) ^ 5, 60, 2, 41, 30, 10, 1, 40, 11);
        });
        e.test("STRAW: 80 grows: super.grows(x) + leaks(2).", x -> {
            oneOfEach(x);
            actIs(x, 7, GROWS, 30 + 5 - 12, 80, 10, 20, 1, 50, 11, 20, 1);
        });
        e.test("81 tells: super.tells(x) - 1.", x -> {
            oneOfEach(x);
            actIs(x, 7, TELLS, 23 + 6 - 1, 81, 2, 80, 10, 20, 1, 50, 11, 20, 1, 50, 11, 20, 1);
        });
    }

    private static void traces() {
        e.test("lets(..) and so on (act 0 is lets): the body of its own KIND, or of the next KIND above that has one;", x -> {
            oneOfEach(x);
            // STRAW has no lets and DARK none; BOY has one. In BOY's own body it is STRAW's lets that grows() asks.
            actIs(x, 7, LETS, 15, 20, 1);
            actIs(x, 4, GROWS, 24, 10, 20, 1);
            actIs(x, 5, GROWS, -22, 41, 30, 10, 1);
        });
        e.test("super: from the KIND above the body's on.", x -> {
            oneOfEach(x);
            // WOLF runs NIGHT's body 41: super there is BRIDE, not NIGHT, which is above WOLF.
            actIs(x, 5, GROWS, -22, 41, 30, 10, 1);
            // STRAW runs DARK's body 50: super there is above DARK.
            actIs(x, 7, LEAKS, -10, 50, 11, 20, 1);
            actIs(x, 7, GROWS, 23, 80, 10, 20, 1, 50, 11, 20, 1);
        });
        e.test("THE TRACE: numbers of the bodies that ran in the latest act(), as they began;", x -> {
            oneOfEach(x);
            x.act(7, TELLS, 1);
            e.is(x.trace(0), 81);
            e.is(x.trace(13), 1);
            x.act(0, LETS, 1);
            e.is(x.trace(0), 1);
            e.is(x.trace(1), Edges.BAD);
            x.act(2, GROWS, 1);
            e.is(x.trace(0), 30);
            e.is(x.trace(2), 1);
        });
        e.test("the first 24 are kept.", x -> {
            oneOfEach(x);
            // No act runs more than 14 bodies, so all of them are kept.
            for (int body = 0; body < 8; body++) {
                for (int act = 0; act < 4; act++) {
                    x.act(body, act, 1);
                    e.is(x.trace(x.count(5) - 1) > 0 ? 1 : 0, 1);
                    e.is(x.count(5) <= 14 ? 1 : 0, 1);
                    e.is(x.trace(24), Edges.BAD);
                }
            }
        });
    }

    private static void body() {
        e.test("A FROST of a KIND (0 .. 7) is kept: its number. BAD,", x -> {
            for (int kind : new int[] {-1, 8, Integer.MIN_VALUE, Integer.MAX_VALUE}) {
                e.is(x.body(kind), Edges.BAD);
            }
            e.is(x.count(4), 0);
            e.is(x.body(7), 0);
            e.is(x.body(0), 1);
            x.keep(0, 0);
            x.keep(1, 1);
            e.is(x.taken(0, 7), 7);
            e.is(x.taken(1, 0), 0);
        });
        e.test("BAD, FULL.", x -> {
            for (int n = 0; n < 50; n++) {
                x.body(7);
            }
            e.is(x.body(8), Edges.BAD);
            e.is(x.body(-1), Edges.BAD);
            e.is(x.body(1), Edges.FULL);
            e.is(x.count(4), 50);
            x.keep(0, 49);
            e.is(x.taken(0, 7), 7);
        });
    }

    private static void act() {
        e.test("An ACT (0 .. 3) of a FROST with x.", x -> {
            x.body(6);
            e.is(x.act(0, 0, 4), 8);
            e.is(x.act(0, 1, 4), 16);
            e.is(x.act(0, 2, 4), 4);
            e.is(x.act(0, 3, 4), 15);
        });
        e.test("0, and no TRACE then: no such FROST, ACT.", x -> {
            e.is(x.act(0, 0, 5), 0);
            e.is(x.count(5), 0);
            x.body(0);
            int[] far = {-1, 1, 50, Integer.MIN_VALUE, Integer.MAX_VALUE};
            for (int wrong : far) {
                x.act(0, 3, 5);
                e.is(x.count(5), 4);
                e.is(x.act(wrong, 0, 5), 0);
                e.is(x.count(5), 0);
                e.is(x.trace(0), Edges.BAD);
            }
            for (int wrong : new int[] {-1, 4, Integer.MIN_VALUE, Integer.MAX_VALUE}) {
                x.act(0, 3, 5);
                e.is(x.act(0, wrong, 5), 0);
                e.is(x.count(5), 0);
                e.is(x.trace(0), Edges.BAD);
            }
        });
    }

    private static void trace() {
        e.test("THE TRACE's i-th body. BAD.", x -> {
            e.is(x.trace(0), Edges.BAD);
            x.body(0);
            x.act(0, 3, 5);
            int[] due = {2, 10, 1, 11};
            for (int i = 0; i < 4; i++) {
                e.is(x.trace(i), due[i]);
            }
            for (int i : new int[] {-1, 4, 23, 24, 25, Integer.MIN_VALUE, Integer.MAX_VALUE}) {
                e.is(x.trace(i), Edges.BAD);
            }
        });
    }

    private static void taken() {
        e.test("What a SHELF holds, taken for a FROST of KIND k (0 .. 7), or under it: its KIND.", x -> {
            oneOfEach(x);
            x.keep(3, 5);
            e.is(x.taken(3, 5), 5);
            e.is(x.taken(3, 3), 5);
            e.is(x.taken(3, 2), 5);
            e.is(x.taken(3, 0), 5);
        });
        e.test("its KIND. BAD,", x -> {
            x.keep(0, x.body(7));
            for (int wrong : new int[] {-1, 8, Integer.MIN_VALUE, Integer.MAX_VALUE}) {
                e.is(x.taken(0, wrong), Edges.BAD);
                e.is(x.taken(1, wrong), Edges.BAD);
                e.is(x.taken(wrong, 0), Edges.BAD);
            }
            e.is(x.taken(6, 0), Edges.BAD);
        });
        e.test("-11, -12.", x -> {
            oneOfEach(x);
            e.is(x.taken(5, 0), Edges.MISSING);
            x.keep(5, 0);
            e.is(x.taken(5, 1), Edges.OTHER);
            e.is(x.taken(5, 6), Edges.OTHER);
            x.keep(5, 6);
            e.is(x.taken(5, 7), Edges.OTHER);
            x.row(5, 0, 0);
            e.is(x.taken(5, 0), Edges.OTHER);
            x.keep(5, -1);
            e.is(x.taken(5, 0), Edges.MISSING);
        });
    }

    private static void count() {
        e.test("How many: 0 FARMS, 1 WANTS, 2 bytes on THE TAPE, 3 changes that may be UNDONE, 4 BODIES, 5 bodies that ran in the latest act()", x -> {
            int[] due = {1, 2, 3, 4, 6, 8};
            x.farm(0);
            x.want(0, 1);
            x.want(0, 2);
            for (int i = 0; i < 3; i++) {
                x.feed('1');
            }
            for (int i = 1; i <= 5; i++) {
                x.mend(0, 5, i);
            }
            x.undo();
            for (int kind = 0; kind < 6; kind++) {
                x.body(kind);
            }
            x.act(5, 3, 1);
            for (int what = 0; what < 6; what++) {
                e.is(x.count(what), due[what]);
            }
        });
        e.test("(all, kept or not).", x -> {
            x.body(7);
            x.act(0, 3, 1);
            e.is(x.count(5), 14);
            x.act(0, 2, 1);
            e.is(x.count(5), 4);
        });
        e.test("BAD.", x -> {
            for (int what : new int[] {-1, 6, Integer.MIN_VALUE, Integer.MAX_VALUE}) {
                e.is(x.count(what), Edges.BAD);
            }
        });
    }
}
