/** Boundaries of the terms' part 2, and of promises 9 to 14. */
final class PlanEdges {
    private static Edges e;

    private PlanEdges() { }

    static void hold(Edges edges) {
        e = edges;
        e.of(Edges.TERMS);
        e.told("======== 2");
        thoughts();
        boardsAndLast();
        bests();
        bestsOfLikeOnes();
        alls();
        leastColds();
        calls();
        e.of(9);
        cold();
        e.of(10);
        plan();
        e.of(11);
        gives();
        e.of(12);
        idle();
        e.of(13);
        best();
        e.of(14);
        all();
    }

    /** A shed whose COLD stays as it is, but for what is let out. */
    private static void still(WinterShed x) {
        Due.law(x, "0");
    }

    private static void thoughts() {
        e.test("IN THOUGHT, of a PLAN: COLD as a day begins (NOW to 29, and 30: behind all);", x -> {
            x.mend(0, 9, 5);
            Due.fill(x, 0, 0, 3);
            e.is(x.cold(0, 4), Edges.BAD);
            e.is(x.cold(0, 5), 40);
            e.is(x.cold(0, 6), 37);
            e.is(x.cold(0, 29), 60);
            e.is(x.cold(0, 30), 61);
            e.is(x.cold(0, 31), Edges.BAD);
        });
        e.test("IN THOUGHT, of a PLAN:", x -> {
            x.farm(1);
            Due.fill(x, 0, 0, 3, 4);
            x.mend(0, 6, 40);
            String before = Edges.all(x);
            x.cold(0, 30);
            x.plan(0, 29, 3);
            x.gives(0, 0);
            x.best(4, -1);
            x.all(1);
            e.is(before.equals(Edges.all(x)) ? 1 : 0, 1);
            e.is(x.of(0, 5), 40);
        });
        e.test("how many hours are let out on a day;", x -> {
            Due.fill(x, 0, 0, 24, 20, 24);
            e.is(x.plan(0, 0, 0), 24);
            e.is(x.plan(0, 1, 0), 16);
            e.is(x.plan(0, 2, 0), 0);
        });
        e.test("which WANTS (bits) are MET, to a day;", x -> {
            x.farm(0);
            x.want(0, 3);
            for (int w = 1; w < 11; w++) {
                x.want(0, 2924);
            }
            x.want(0, 201);
            Due.fill(x, 0, 0, 3, 0, 1);
            e.is(x.plan(0, 0, 1), 1);
            e.is(x.plan(0, 1, 1), 1);
            e.is(x.plan(0, 2, 1), 1 | 1 << 11);
            e.is(x.plan(0, 29, 1), 1 | 1 << 11);
            x.mend(0, 9, 1);
            Due.fill(x, 0, 0, 0, 1);
            e.is(x.plan(0, 29, 1), 1 << 11);
        });
        e.test("GAIN of all;", x -> {
            x.farm(0);
            x.farm(0);
            x.want(0, 3);
            x.want(1, 2);
            x.want(1, 102);
            x.mend(1, 4, 99);
            x.mend(2, 4, 0);
            Due.fill(x, 0, 0, 3, 2);
            e.is(x.plan(0, 0, 2), 109);
            e.is(x.plan(0, 1, 2), 109);
            x.mend(2, 4, 1);
            e.is(x.plan(0, 0, 2), 109);
            e.is(x.plan(0, 1, 2), 110);
            e.is(x.plan(0, 29, 2), 110);
        });
        e.test("HARM of a FARM, of all, to a day;", x -> {
            x.farm(9);
            x.farm(1);
            x.want(0, 102);
            Due.fill(x, 0, 0, 3, 2, 1);
            e.is(x.plan(0, 0, 10), 27);
            e.is(x.plan(0, 1, 10), 27);
            e.is(x.plan(0, 2, 10), 36);
            e.is(x.plan(0, 29, 10), 36);
            e.is(x.plan(0, 2, 11), 6);
            e.is(x.plan(0, 0, 3), 30);
            e.is(x.plan(0, 1, 3), 32);
            e.is(x.plan(0, 29, 3), 42);
        });
        e.test("IDLE: COLD as a day begins, if nothing is let out.", x -> {
            Due.fill(x, 0, 0, 24, 24);
            e.is(x.idle(0), 40);
            e.is(x.idle(2), 42);
            e.is(x.idle(30), 70);
            x.mend(0, 6, 41);
            e.is(x.idle(1), 41);
            e.is(x.idle(2), 0);
            e.is(x.idle(3), 1);
        });
    }

    private static void boardsAndLast() {
        e.test("the day on which the BOARDS first GIVE (NOT by 29).", x -> {
            x.row(0, 0, 0);
            x.mend(0, 6, 40);
            e.is(x.gives(0, 0), 1);
            x.mend(0, 6, 39);
            e.is(x.gives(0, 0), 0);
            Due.law(x, "50");
            e.is(x.gives(0, 0), 0);
            x.mend(0, 6, 40);
            e.is(x.gives(0, 0), 1);
        });
        e.test("the day on which the BOARDS first GIVE (NOT by 29).", x -> {
            x.row(0, 0, 0);
            x.mend(0, 6, 68);
            e.is(x.gives(0, 0), 29);
            x.mend(0, 6, 69);
            e.is(x.gives(0, 0), Edges.NOT);
            x.mend(0, 9, 29);
            e.is(x.gives(0, 0), Edges.NOT);
            x.mend(0, 6, 39);
            e.is(x.gives(0, 0), 29);
        });
        e.test("LAST: the day on which COLD is first 0 as it begins (NOT).", x -> {
            Due.fill(x, 0, 0, 24, 16, 0, 1);
            e.is(x.gives(0, 1), 2);
            Due.fill(x, 0, 0, 24, 15);
            e.is(x.gives(0, 1), Edges.NOT);
            x.mend(0, 5, 0);
            e.is(x.gives(0, 1), 0);
            x.mend(0, 9, 29);
            e.is(x.gives(0, 1), 29);
        });
        e.test("LAST: the day on which COLD is first 0 as it begins (NOT).", x -> {
            x.row(0, 0, 0);
            x.mend(0, 6, 40);
            e.is(x.gives(0, 1), 1);
            x.mend(0, 6, 39);
            e.is(x.gives(0, 1), 0);
            x.mend(0, 6, 68);
            e.is(x.gives(0, 1), 29);
        });
        e.test("LAST: the day on which COLD is first 0 as it begins (NOT).", x -> {
            x.row(0, 0, 0);
            Due.law(x, "(d=28)*-40");
            e.is(x.gives(0, 1), 29);
            Due.law(x, "(d=29)*-40");
            e.is(x.gives(0, 1), 30);
            e.is(x.cold(0, 30), 0);
            Due.law(x, "(d=29)*-39");
            e.is(x.gives(0, 1), Edges.NOT);
        });
    }

    private static void bests() {
        e.test("BEST: hours of each of t (1 .. 4) days from NOW on", x -> {
            x.farm(0);
            x.mend(0, 9, 10);
            for (int day = 9; day <= 14; day++) {
                x.want(0, 100 * day + 1);
            }
            e.is(x.best(0, -1), Edges.VOID);
            e.is(x.best(5, -1), Edges.VOID);
            e.is(x.best(1, -1), 10);
            e.is(x.best(2, -1), 20);
            e.is(x.best(3, -1), 30);
            e.is(x.best(4, -1), 40);
            e.is(x.best(4, 0), 1);
            e.is(x.best(4, 3), 1);
        });
        e.test("(0 .. 24 each, as told by WANTS alone: 0, or HOURS of a WANT of that DAY)", x -> {
            x.farm(0);
            x.want(0, 124);
            x.mend(0, 5, 10);
            Due.law(x, "(l=3)*99");
            // 3 hours on day 0 would make enough for day 1, but no want of day 0 tells them.
            e.is(x.best(2, -1), 0);
            e.is(x.best(2, 0), 0);
            e.is(x.best(2, 1), 0);
            x.want(0, 203);
            e.is(x.best(2, -1), 0);
            x.want(0, 3);
            x.mend(2, 4, 0);
            e.is(x.best(2, -1), 10);
            e.is(x.best(2, 0), 3);
            e.is(x.best(2, 1), 24);
        });
        e.test("by which GAIN less HARM of all is most: that;", x -> {
            x.farm(0);
            x.farm(4);
            x.farm(1);
            x.want(0, 2);
            x.want(0, 3);
            // 2 hours: 10 less 10; 3 hours: 20 less 15.
            e.is(x.best(1, -1), 5);
            e.is(x.best(1, 0), 3);
            x.mend(1, 4, 4);
            // 3 hours: 14 less 15.
            e.is(x.best(1, -1), 0);
            e.is(x.best(1, 0), 0);
            x.want(1, 3);
            x.mend(2, 4, 1);
            // 3 hours: 15 less 3.
            e.is(x.best(1, -1), 12);
            e.is(x.best(1, 0), 3);
        });
        e.test("hours of the k-th day (as tried, also where there are fewer;", x -> {
            x.farm(0);
            x.want(0, 20);
            x.want(0, 124);
            x.mend(0, 5, 15);
            Due.law(x, "(l=15)*99");
            // 20 are tried on day 0 and 15 let out; only so day 1 has enough.
            e.is(x.best(2, -1), 10);
            e.is(x.best(2, 0), 20);
            e.is(x.best(2, 1), 24);
        });
        e.test("beyond 29: 0).", x -> {
            x.farm(0);
            x.want(0, 2905);
            x.want(0, 5);
            x.mend(0, 9, 29);
            e.is(x.best(4, -1), 10);
            e.is(x.best(4, 0), 5);
            e.is(x.best(4, 1), 0);
            e.is(x.best(4, 2), 0);
            e.is(x.best(4, 3), 0);
        });
        e.test("by which GAIN less HARM of all is most: that;", x -> {
            x.farm(0);
            x.want(0, 101);
            x.mend(0, 6, 40);
            // Left alone, 41 on day 1 are above BEARS; with an hour out on day 0 they are not.
            e.is(x.best(2, -1), 0);
            x.want(0, 1);
            x.mend(1, 4, 0);
            e.is(x.best(2, -1), 10);
            e.is(x.best(2, 0), 1);
            e.is(x.best(2, 1), 1);
        });
    }

    private static void bestsOfLikeOnes() {
        e.test("of like ones the least, day by day;", x -> {
            x.farm(0);
            x.want(0, 3);
            x.want(0, 103);
            still(x);
            x.mend(0, 5, 3);
            // 3 and 0 gain 10, and so do 0 and 3.
            e.is(x.best(2, -1), 10);
            e.is(x.best(2, 0), 0);
            e.is(x.best(2, 1), 3);
        });
        e.test("of like ones the least, day by day;", x -> {
            x.farm(0);
            x.want(0, 3);
            x.want(0, 4);
            x.mend(1, 4, 0);
            // 3 gain 10, and so do 4.
            e.is(x.best(1, -1), 10);
            e.is(x.best(1, 0), 3);
            x.mend(0, 4, 0);
            e.is(x.best(1, -1), 0);
            e.is(x.best(1, 0), 0);
        });
        e.test("of like ones the least, day by day;", x -> {
            x.farm(0);
            x.want(0, 9);
            x.want(0, 24);
            x.mend(0, 5, 5);
            Due.law(x, "9*(l=5)");
            x.want(0, 109);
            // 9 and 24 tried on day 0 both let out 5, and 9 grow: the lesser of them, and then 9 or nothing.
            e.is(x.best(2, -1), 10);
            e.is(x.best(2, 0), 9);
            e.is(x.best(2, 1), 9);
        });
    }

    private static void alls() {
        e.test("ALL: whether all WANTS from NOW on can be MET by letting out each day as much as its greatest WANT needs (no more):", x -> {
            x.farm(0);
            still(x);
            x.want(0, 10);
            x.want(0, 5);
            x.want(0, 124);
            x.want(0, 2910);
            x.mend(0, 5, 44);
            e.is(x.all(0), Edges.NOT);
            x.mend(0, 5, 43);
            e.is(x.all(0), 3);
            x.mend(0, 9, 1);
            x.mend(0, 5, 34);
            e.is(x.all(0), Edges.NOT);
            x.mend(0, 9, 2);
            x.mend(0, 5, 10);
            e.is(x.all(0), Edges.NOT);
        });
        e.test("ALL: whether all WANTS from NOW on can be MET", x -> {
            x.farm(0);
            x.want(0, 101);
            x.mend(0, 6, 40);
            // Day 1 begins above BEARS, so nothing is there for its want.
            e.is(x.all(0), 0);
            x.mend(0, 6, 41);
            e.is(x.all(0), Edges.NOT);
        });
        e.test("the first that is not (the least; NOT).", x -> {
            x.farm(0);
            still(x);
            x.mend(0, 5, 9);
            x.want(0, 9);
            x.want(0, 901);
            x.want(0, 801);
            x.want(0, 701);
            e.is(x.all(0), 1);
            x.mend(1, 2, 0);
            e.is(x.all(0), 2);
            x.mend(2, 2, 0);
            e.is(x.all(0), 3);
            x.mend(3, 2, 0);
            e.is(x.all(0), Edges.NOT);
        });
    }

    private static void leastColds() {
        e.test("LEASTCOLD: with how much COLD at least, now (0 .. 999), that PLAN meets all,", x -> {
            x.farm(0);
            still(x);
            e.is(x.all(1), 0);
            x.want(0, 7);
            x.want(0, 3);
            e.is(x.all(1), 7);
            x.want(0, 109);
            e.is(x.all(1), 16);
            x.mend(0, 9, 1);
            e.is(x.all(1), 9);
            x.mend(0, 9, 2);
            e.is(x.all(1), 0);
            e.is(x.of(0, 5), 40);
        });
        e.test("LEASTCOLD: with how much COLD at least, now (0 .. 999), that PLAN meets all,", x -> {
            x.farm(0);
            x.want(0, 1323);
            x.mend(0, 6, 999);
            Due.law(x, "-75");
            e.is(x.all(1), 998);
            x.mend(0, 3, 24);
            e.is(x.all(1), 999);
            x.want(0, 1);
            e.is(x.all(1), Edges.NOT);
        });
        e.test("and the BOARDS never GIVE; NOT.", x -> {
            x.farm(0);
            still(x);
            x.want(0, 20);
            x.mend(0, 6, 20);
            e.is(x.all(1), 20);
            x.mend(0, 6, 19);
            e.is(x.all(1), Edges.NOT);
        });
        e.test("and the BOARDS never GIVE; NOT.", x -> {
            x.mend(0, 5, 999);
            x.mend(0, 6, 29);
            // From 0 hours on, day 29 begins with 29.
            e.is(x.all(1), 0);
            x.mend(0, 6, 28);
            e.is(x.all(1), Edges.NOT);
            Due.law(x, "(d=29)*99");
            e.is(x.all(1), 0);
        });
        e.test("and the BOARDS never GIVE; NOT.", x -> {
            // Below 30 hours so much comes that the BOARDS GIVE: 30 are the least by which they never do.
            Due.law(x, "(c<30)*99");
            x.mend(0, 6, 90);
            e.is(x.all(1), 30);
            e.is(x.all(0), Edges.NOT);
        });
    }

    private static void calls() {
        e.told("Ahead of the calls `farm`, `want`, `wants`, `mend`, `of`, `feed`, `law` the interface says: ---- farms, wants");
        e.told("Ahead of the calls `cold`, `plan`, `gives`, `idle`, `best`, `all` the interface says:");
        e.test("---- plans (a PLAN on a SHELF: BAD, -11, -12 (no ROW of bytes)).", x -> {
            for (int shelf : new int[] {-1, 6, Integer.MIN_VALUE, Integer.MAX_VALUE}) {
                e.is(x.cold(shelf, 0), Edges.BAD);
                e.is(x.plan(shelf, 0, 0), Edges.BAD);
                e.is(x.gives(shelf, 0), Edges.BAD);
            }
        });
        e.test("---- plans (a PLAN on a SHELF: BAD, -11, -12 (no ROW of bytes)).", x -> {
            for (int shelf = 0; shelf < 6; shelf++) {
                e.is(x.cold(shelf, 0), Edges.MISSING);
                e.is(x.plan(shelf, 0, 0), Edges.MISSING);
                e.is(x.gives(shelf, 0), Edges.MISSING);
                x.row(shelf, 0, 0);
                e.is(x.cold(shelf, 0), 40);
            }
        });
        e.test("---- plans (a PLAN on a SHELF: BAD, -11, -12 (no ROW of bytes)).", x -> {
            for (int sort = 1; sort <= 4; sort++) {
                x.row(0, sort, 3);
                e.is(x.cold(0, 0), Edges.OTHER);
                e.is(x.plan(0, 0, 0), Edges.OTHER);
                e.is(x.gives(0, 0), Edges.OTHER);
            }
            x.keep(0, x.body(0));
            e.is(x.cold(0, 0), Edges.OTHER);
            e.is(x.plan(0, 0, 0), Edges.OTHER);
            e.is(x.gives(0, 1), Edges.OTHER);
        });
    }

    private static void cold() {
        e.test("COLD as a day begins (NOW to 30). BAD,", x -> {
            x.row(0, 0, 0);
            for (int day : new int[] {-1, 31, Integer.MIN_VALUE, Integer.MAX_VALUE}) {
                e.is(x.cold(0, day), Edges.BAD);
            }
            x.mend(0, 9, 29);
            e.is(x.cold(0, 28), Edges.BAD);
            e.is(x.cold(0, 0), Edges.BAD);
            e.is(x.cold(0, 29), 40);
            e.is(x.cold(0, 30), 41);
        });
        e.test("BAD, -11, -12 (no ROW of bytes).", x -> {
            e.is(x.cold(0, 31), Edges.BAD);
            e.is(x.cold(0, 30), Edges.MISSING);
            x.row(0, 1, 1);
            e.is(x.cold(0, 31), Edges.BAD);
            e.is(x.cold(0, 30), Edges.OTHER);
        });
    }

    private static void plan() {
        e.test("Hours let out on a day (NOW to 29; what 0),", x -> {
            Due.fill(x, 0, 0, 6, 7);
            e.is(x.plan(0, -1, 0), Edges.BAD);
            e.is(x.plan(0, 30, 0), Edges.BAD);
            e.is(x.plan(0, 0, 0), 6);
            e.is(x.plan(0, 1, 0), 7);
            e.is(x.plan(0, 29, 0), 0);
            x.mend(0, 9, 29);
            e.is(x.plan(0, 28, 0), Edges.BAD);
            e.is(x.plan(0, 29, 0), 6);
        });
        e.test("WANTS MET to a day (1: bits), GAIN (2), HARM of all (3), HARM of FARM f (10 and f).", x -> {
            x.farm(2);
            x.farm(3);
            x.want(1, 4);
            Due.fill(x, 0, 0, 5);
            e.is(x.plan(0, 0, 1), 1);
            e.is(x.plan(0, 0, 2), 10);
            e.is(x.plan(0, 0, 3), 10);
            e.is(x.plan(0, 0, 10), 10);
            e.is(x.plan(0, 0, 11), 0);
        });
        e.test("HARM of FARM f (10 and f). BAD,", x -> {
            Due.fill(x, 0, 0, 5);
            e.is(x.plan(0, 0, 10), Edges.BAD);
            for (int f = 0; f < 6; f++) {
                x.farm(f);
            }
            for (int f = 0; f < 6; f++) {
                e.is(x.plan(0, 0, 10 + f), 5 * f);
            }
            for (int what : new int[] {-1, 4, 9, 16, Integer.MIN_VALUE, Integer.MAX_VALUE}) {
                e.is(x.plan(0, 0, what), Edges.BAD);
            }
        });
        e.test("BAD, -11, -12 (no ROW of bytes).", x -> {
            e.is(x.plan(0, 30, 0), Edges.BAD);
            e.is(x.plan(0, 0, 10), Edges.BAD);
            e.is(x.plan(0, 0, 3), Edges.MISSING);
            x.keep(0, x.body(0));
            e.is(x.plan(0, 0, 4), Edges.BAD);
            e.is(x.plan(0, 0, 3), Edges.OTHER);
        });
    }

    private static void gives() {
        e.test("The day the BOARDS first GIVE (what 0), LAST (1). BAD,", x -> {
            x.row(0, 0, 0);
            e.is(x.gives(0, 2), Edges.BAD);
            e.is(x.gives(0, -1), Edges.BAD);
            x.mend(0, 6, 39);
            e.is(x.gives(0, 0), 0);
            x.mend(0, 6, 50);
            e.is(x.gives(0, 0), 11);
            Due.law(x, "(d=3)*-40");
            e.is(x.gives(0, 0), Edges.NOT);
            e.is(x.gives(0, 1), 4);
        });
        e.test("BAD, -11, -12 (no ROW of bytes);", x -> {
            e.is(x.gives(0, 2), Edges.BAD);
            e.is(x.gives(0, 1), Edges.MISSING);
            x.row(0, 4, 2);
            e.is(x.gives(0, -1), Edges.BAD);
            e.is(x.gives(0, 1), Edges.OTHER);
        });
        e.test("NOT.", x -> {
            x.row(0, 0, 0);
            e.is(x.gives(0, 0), Edges.NOT);
            e.is(x.gives(0, 1), Edges.NOT);
        });
    }

    private static void idle() {
        e.test("IDLE (NOW to 30). BAD.", x -> {
            e.is(x.idle(0), 40);
            e.is(x.idle(30), 70);
            for (int day : new int[] {-1, 31, Integer.MIN_VALUE, Integer.MAX_VALUE}) {
                e.is(x.idle(day), Edges.BAD);
            }
            x.mend(0, 9, 29);
            e.is(x.idle(28), Edges.BAD);
            e.is(x.idle(29), 40);
            e.is(x.idle(30), 41);
        });
    }

    private static void best() {
        e.test("BEST: that (k -1), hours of the k-th day (0 .. t less 1).", x -> {
            x.farm(0);
            x.want(0, 5);
            x.want(0, 106);
            x.want(0, 207);
            x.want(0, 308);
            e.is(x.best(4, -1), 40);
            for (int k = 0; k < 4; k++) {
                e.is(x.best(4, k), 5 + k);
            }
            e.is(x.best(2, 1), 6);
        });
        e.test("VOID: BAD.", x -> {
            for (int t = 1; t <= 4; t++) {
                e.is(x.best(t, t), Edges.VOID);
                e.is(x.best(t, t - 1), 0);
                e.is(x.best(t, -1), 0);
                e.is(x.best(t, -2), Edges.VOID);
                e.is(x.best(t, Integer.MIN_VALUE), Edges.VOID);
            }
            for (int t : new int[] {0, -1, 5, Integer.MIN_VALUE, Integer.MAX_VALUE}) {
                e.is(x.best(t, -1), Edges.VOID);
                e.is(x.best(t, 0), Edges.VOID);
            }
        });
    }

    private static void all() {
        e.test("ALL (what 0; NOT: all are), LEASTCOLD (1; NOT).", x -> {
            e.is(x.all(0), Edges.NOT);
            e.is(x.all(1), 0);
            x.farm(0);
            x.want(0, 24);
            x.mend(0, 5, 23);
            e.is(x.all(0), 0);
            e.is(x.all(1), 24);
            x.mend(0, 6, 23);
            e.is(x.all(1), Edges.NOT);
        });
        e.test("BAD.", x -> {
            for (int what : new int[] {-1, 2, Integer.MIN_VALUE, Integer.MAX_VALUE}) {
                e.is(x.all(what), Edges.BAD);
            }
        });
    }
}
