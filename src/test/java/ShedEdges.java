/** Boundaries of the terms' part 1 but for the law, and of promises 1 to 6. */
final class ShedEdges {
    private static Edges e;

    private ShedEdges() { }

    static void hold(Edges edges) {
        e = edges;
        e.of(Edges.INTRODUCTION);
        calls();
        e.of(Edges.TERMS);
        e.told("======== 1");
        numbers();
        farmsAndWants();
        fullVillages();
        days();
        frosts();
        plans();
        e.of(1);
        newObjects();
        e.of(2);
        farms();
        e.of(3);
        wants();
        e.of(4);
        wantsFromRows();
        e.of(5);
        mending();
        e.of(6);
        asking();
    }

    private static void calls() {
        e.test("An object is used for at most 512 calls after it has been made;", x -> {
            for (int i = 1; i <= 510; i++) {
                e.is(x.mend(0, 5, i), i == 1 ? 40 : i - 1);
            }
            e.is(x.of(0, 5), 510);
            e.is(x.undo(), 39);
        });
        e.told("what later calls answer is free.");
    }

    private static void numbers() {
        e.test("THE SHED holds COLD (0 .. 999 hours; 40 at first);", x -> e.within(x, 5, 0, 999, 40));
        e.test("BOARDS bear BEARS of it (1 .. 999; 200 at first).", x -> e.within(x, 6, 1, 999, 200));
        e.test("GROWS (0 .. 9; 1 at first),", x -> e.within(x, 7, 0, 9, 1));
        e.test("LEAK (0 .. 9; 0 at first).", x -> e.within(x, 8, 0, 9, 0));
        e.test("NOW (0 .. 29; 0 at first).", x -> e.within(x, 9, 0, 29, 0));
    }

    private static void farmsAndWants() {
        e.test("FARMS 0 .. 5, as they come:", x -> {
            for (int f = 0; f < 6; f++) {
                e.is(x.farm(f), f);
            }
            e.is(x.farm(6), Edges.FULL);
            for (int f = 0; f < 6; f++) {
                e.is(x.of(f, 0), f);
            }
            e.is(x.of(6, 0), Edges.BAD);
            e.is(x.of(-1, 0), Edges.BAD);
        });
        e.test("BEES (0 .. 9: harm an hour),", x -> {
            x.farm(0);
            e.within(x, 0, 0, 9, 0);
            Due.fill(x, 0, 0, 7);
            e.is(x.plan(0, 0, 3), 63);
            x.mend(0, 0, 0);
            e.is(x.plan(0, 0, 3), 0);
        });
        e.test("VOICES (0 .. 9; 1 at first).", x -> {
            x.farm(5);
            e.within(x, 1, 0, 9, 1);
        });
        e.test("WANTS 0 .. 11, as they come: of a FARM,", x -> {
            x.farm(0);
            x.farm(0);
            for (int w = 0; w < 12; w++) {
                e.is(x.want(w % 2, 1 + w), w);
            }
            e.is(x.want(0, 1), Edges.FULL);
            for (int w = 0; w < 12; w++) {
                e.is(x.of(w, 10), w % 2);
                e.is(x.of(w, 3), 1 + w);
            }
            e.is(x.of(12, 10), Edges.BAD);
        });
        e.test("on a DAY (0 .. 29),", x -> {
            x.farm(0);
            e.is(x.want(0, 3001), Edges.BAD);
            e.is(x.want(0, 1), 0);
            e.within(x, 2, 0, 29, 0);
            e.is(x.want(0, 2901), 1);
            e.is(x.of(1, 2), 29);
        });
        e.test("HOURS (1 .. 24),", x -> {
            x.farm(0);
            e.is(x.want(0, 500), Edges.BAD);
            e.is(x.want(0, 525), Edges.BAD);
            e.is(x.want(0, 501), 0);
            e.within(x, 3, 1, 24, 1);
            e.is(x.want(0, 524), 1);
            e.is(x.of(1, 3), 24);
        });
        e.test("GAIN (0 .. 99; 10 at first).", x -> {
            x.farm(0);
            x.want(0, 1);
            e.within(x, 4, 0, 99, 10);
        });
    }

    /** Six farms with a bee each; farm f wants f + 1 hours on day 0 (wants 0 to 5) and on day 1 (6 to 11). */
    private static void fill(WinterShed x) {
        for (int f = 0; f < 6; f++) {
            x.farm(1);
        }
        for (int w = 0; w < 12; w++) {
            x.want(w % 6, 100 * (w / 6) + 1 + w % 6);
        }
    }

    private static void fullVillages() {
        e.test("WANTS 0 .. 11, as they come: of a FARM,", x -> {
            fill(x);
            Due.fill(x, 0, 0, 3, 3);
            e.is(x.plan(0, 0, 1), 7);
            e.is(x.plan(0, 1, 1), 7 | 7 << 6);
            e.is(x.plan(0, 1, 2), 60);
            e.is(x.plan(0, 1, 3), 18);
            e.is(x.plan(0, 1, 10), 0);
            e.is(x.plan(0, 1, 15), 6);
            e.is(x.drawn(0, 1, 10200, 0), 18);
            Due.fill(x, 0, 0, 6, 6);
            e.is(x.plan(0, 1, 1), 4095);
            e.is(x.plan(0, 1, 2), 120);
            e.is(x.plan(0, 1, 3), 0);
            e.is(x.pass(3), 37);
            e.is(x.led(2), 30);
            e.is(x.led(3), 9);
        });
        e.test("WANTS 0 .. 11, as they come: of a FARM,", x -> {
            fill(x);
            e.is(x.best(2, -1), 120);
            e.is(x.best(2, 0), 6);
            e.is(x.best(2, 1), 6);
            e.is(x.all(0), Edges.NOT);
            e.is(x.all(1), 12);
            x.mend(0, 5, 11);
            e.is(x.all(0), 11);
            // Farm 0 has 10 by 5 hours on its day, and farm 5 loses 5.
            e.is(x.byTurns(5, 52, 0), 15);
            e.is(x.byTurns(5, 52, 1), 1);
            e.is(x.byTurns(50, 61, 0), 0);
        });
        e.test("FARMS 0 .. 5, as they come:", x -> {
            fill(x);
            e.is(x.vote(106, 0), 63);
            e.is(x.vote(103, 0), 7);
            e.is(x.vote(103, 1), 0);
            e.is(x.vote(104, 1), 1);
            e.is(x.vote(104, 2), 15);
            e.is(x.vote(103, 2), 8 | 16 | 32);
            e.is(x.most(1), 24);
            e.is(x.agenda(1, 0x1FFFFFE), 4);
            int[] sold = {34, 34, 35, 37, 38, 38, 39, 39, 39, 39, 39, 40};
            for (int p = 0; p < sold.length; p++) {
                e.is(x.price(1, p), sold[p]);
            }
            e.is(x.power(5, 0), 5);
            e.is(x.power(5, 1), 16);
        });
    }

    private static void days() {
        e.test("A DAY: so many hours are LET OUT (0 .. 24, no more than COLD);", x -> {
            x.mend(0, 5, 47);
            e.is(x.pass(-1), Edges.BAD);
            e.is(x.pass(25), Edges.BAD);
            e.is(x.pass(24), 23);
            e.is(x.pass(24), Edges.NOT);
            e.is(x.pass(23), 0);
            e.is(x.pass(1), Edges.NOT);
            e.is(x.pass(0), 1);
        });
        e.test("then COLD goes by THE LAW.", x -> {
            Due.law(x, "c*2-l");
            x.mend(0, 5, 10);
            Due.fill(x, 0, 0, 4);
            e.is(x.cold(0, 1), 6 + 12 - 4);
            e.is(x.pass(4), 14);
        });
        e.test("THE BOARDS GIVE on each day (0 .. 29) that begins with COLD above BEARS:", x -> {
            x.row(0, 0, 0);
            Due.law(x, "0");
            x.mend(0, 6, 40);
            e.is(x.gives(0, 0), Edges.NOT);
            e.is(x.idle(0), 40);
            x.mend(0, 6, 39);
            e.is(x.gives(0, 0), 0);
        });
        e.test("THE BOARDS GIVE on each day (0 .. 29) that begins with COLD above BEARS:", x -> {
            x.row(0, 0, 0);
            Due.law(x, "(d=28)*50");
            x.mend(0, 6, 60);
            e.is(x.gives(0, 0), 29);
            e.is(x.idle(30), 0);
            Due.law(x, "(d=29)*50");
            e.is(x.gives(0, 0), Edges.NOT);
            e.is(x.idle(30), 90);
        });
        e.test("THE BOARDS GIVE on each day (0 .. 29) that begins with COLD above BEARS:", x -> {
            Due.law(x, "60");
            x.mend(0, 6, 50);
            for (int day = 1; day <= 29; day++) {
                e.is(x.idle(day), 0);
            }
            e.is(x.idle(30), 60);
            for (int day = 0; day < 29; day++) {
                e.is(x.pass(0), day == 0 ? 100 : 60);
                e.is(x.led(4), day);
            }
        });
        e.test("then all is out, COLD is 0 (as that day begins).", x -> {
            x.row(0, 0, 0);
            x.mend(0, 5, 300);
            e.is(x.cold(0, 0), 0);
            e.is(x.idle(0), 0);
            e.is(x.idle(1), 1);
            e.is(x.pass(1), Edges.NOT);
            e.is(x.pass(0), 1);
        });
    }

    private static void frosts() {
        e.test("FROST of l hours on a day: each WANT of that DAY with HOURS no more than l is MET (GAIN);", x -> {
            x.farm(0);
            x.want(0, 6);
            x.want(0, 7);
            x.want(0, 8);
            x.want(0, 107);
            x.mend(0, 4, 1);
            x.mend(1, 4, 20);
            Due.fill(x, 0, 0, 7, 0);
            e.is(x.plan(0, 0, 1), 1 | 2);
            e.is(x.plan(0, 0, 2), 21);
            e.is(x.plan(0, 29, 1), 1 | 2);
            x.put(0, 1, 7);
            e.is(x.plan(0, 1, 1), 1 | 2 | 8);
            x.put(0, 1, 6);
            e.is(x.plan(0, 1, 1), 1 | 2);
        });
        e.test("each FARM that has no WANT MET that day is HARMED by BEES times l.", x -> {
            x.farm(2);
            x.farm(3);
            x.farm(4);
            x.farm(0);
            x.want(0, 5);
            x.want(0, 6);
            x.want(1, 6);
            x.want(2, 105);
            x.mend(0, 4, 0);
            Due.fill(x, 0, 0, 5, 5);
            e.is(x.plan(0, 0, 10), 0);
            e.is(x.plan(0, 0, 11), 15);
            e.is(x.plan(0, 0, 12), 20);
            e.is(x.plan(0, 0, 13), 0);
            e.is(x.plan(0, 0, 3), 35);
            e.is(x.plan(0, 1, 10), 10);
            e.is(x.plan(0, 1, 12), 20);
        });
    }

    private static void plans() {
        e.test("A PLAN: a ROW of bytes on a SHELF: hours let out, day by day from NOW on", x -> {
            x.mend(0, 9, 27);
            Due.fill(x, 5, 0, 1, 2, 3, 4, 5);
            e.is(x.plan(5, 26, 0), Edges.BAD);
            e.is(x.plan(5, 27, 0), 1);
            e.is(x.plan(5, 28, 0), 2);
            e.is(x.plan(5, 29, 0), 3);
            e.is(x.cold(5, 30), 34);
        });
        e.test("(what lacks, below 0: 0;", x -> {
            Due.fill(x, 0, 0, 3);
            e.is(x.plan(0, 0, 0), 3);
            e.is(x.plan(0, 1, 0), 0);
            e.is(x.plan(0, 29, 0), 0);
            x.row(0, 0, 0);
            e.is(x.plan(0, 0, 0), 0);
        });
        e.test("(what lacks, below 0: 0;", x -> {
            Due.fill(x, 0, 0, -1, -128, 255, 1);
            e.is(x.plan(0, 0, 0), 0);
            e.is(x.plan(0, 1, 0), 0);
            e.is(x.plan(0, 2, 0), 0);
            e.is(x.plan(0, 3, 0), 1);
        });
        e.test("above 24: 24;", x -> {
            x.mend(0, 5, 120);
            Due.fill(x, 0, 0, 23, 24, 25, 127);
            e.is(x.plan(0, 0, 0), 23);
            e.is(x.plan(0, 1, 0), 24);
            e.is(x.plan(0, 2, 0), 24);
            e.is(x.plan(0, 3, 0), 24);
        });
        e.test("more than there is: all).", x -> {
            x.mend(0, 5, 9);
            Due.fill(x, 0, 0, 8, 2, 2, 0, 2);
            e.is(x.plan(0, 0, 0), 8);
            e.is(x.plan(0, 1, 0), 1);
            e.is(x.plan(0, 2, 0), 0);
            e.is(x.cold(0, 3), 1);
            e.is(x.plan(0, 4, 0), 2);
            e.is(x.cold(0, 5), 0);
        });
    }

    private static void newObjects() {
        e.test("A shed with 40 hours of cold, no farms.", x -> {
            int[] first = {40, 200, 1, 0, 0};
            for (int what = 5; what <= 9; what++) {
                e.is(x.of(0, what), first[what - 5]);
            }
            for (int what = 0; what <= 5; what++) {
                e.is(x.count(what), 0);
                e.is(x.led(what), what == 5 ? Edges.BAD : 0);
                e.is(x.put(what, 0, 0), Edges.MISSING);
            }
            e.is(x.of(0, 0), Edges.BAD);
            e.is(x.of(0, 2), Edges.BAD);
            e.is(x.undo(), Edges.STATE);
            e.is(x.redo(), Edges.STATE);
            e.is(x.back(), Edges.STATE);
            e.is(x.trace(0), Edges.BAD);
            e.is(x.idle(1), 41);
        });
        e.test("A shed with 40 hours of cold, no farms.", x -> {
            change(new WinterShed());
            e.is(x.of(0, 5), 40);
            String before = Edges.all(x);
            e.is(before.equals(Edges.all(new WinterShed())) ? 1 : 0, 1);
        });
    }

    /** Changes all that can be changed. */
    private static void change(WinterShed y) {
        y.farm(3);
        y.want(0, 101);
        for (int what = 0; what < 10; what++) {
            y.mend(0, what, 7);
        }
        y.feed('1');
        y.law();
        y.feed('1');
        Due.fill(y, 0, 0, 1, 2);
        y.keep(1, y.body(7));
        y.act(0, 3, 1);
        y.image();
        y.pass(2);
    }

    private static void farms() {
        e.test("A FARM: its number. BAD, FULL: 6.", x -> {
            e.is(x.farm(-1), Edges.BAD);
            e.is(x.farm(10), Edges.BAD);
            e.is(x.farm(Integer.MIN_VALUE), Edges.BAD);
            e.is(x.farm(Integer.MAX_VALUE), Edges.BAD);
            e.is(x.count(0), 0);
            e.is(x.farm(9), 0);
            e.is(x.farm(0), 1);
            e.is(x.of(0, 0), 9);
            e.is(x.of(1, 0), 0);
        });
        e.test("FULL: 6.", x -> {
            for (int f = 0; f < 6; f++) {
                e.is(x.farm(1), f);
            }
            e.is(x.farm(2), Edges.FULL);
            e.is(x.count(0), 6);
            e.is(x.of(5, 0), 1);
        });
        e.test("BAD, FULL: 6.", x -> {
            for (int f = 0; f < 6; f++) {
                x.farm(1);
            }
            e.is(x.farm(10), Edges.BAD);
            e.is(x.farm(-1), Edges.BAD);
        });
    }

    private static void wants() {
        e.test("A WANT of a FARM (dh: 100 times the DAY, and HOURS): its number.", x -> {
            x.farm(0);
            x.farm(0);
            e.is(x.want(1, 2924), 0);
            e.is(x.of(0, 10), 1);
            e.is(x.of(0, 2), 29);
            e.is(x.of(0, 3), 24);
            e.is(x.of(0, 4), 10);
            e.is(x.want(0, 1), 1);
            e.is(x.of(1, 10), 0);
            e.is(x.of(1, 2), 0);
            e.is(x.of(1, 3), 1);
        });
        e.test("A WANT of a FARM (dh: 100 times the DAY, and HOURS): its number. BAD,", x -> {
            x.farm(0);
            int[] wrong = {0, 25, 99, 100, 125, 199, 2900, 2925, 3000, 3001, 3024, -1, -76, -99, -100, -101,
                Integer.MAX_VALUE, Integer.MIN_VALUE, Integer.MIN_VALUE + 50};
            for (int dh : wrong) {
                e.is(x.want(0, dh), Edges.BAD);
            }
            e.is(x.count(1), 0);
        });
        e.test("A WANT of a FARM (dh: 100 times the DAY, and HOURS): its number. BAD,", x -> {
            e.is(x.want(0, 1), Edges.BAD);
            x.farm(0);
            e.is(x.want(-1, 1), Edges.BAD);
            e.is(x.want(1, 1), Edges.BAD);
            e.is(x.want(6, 1), Edges.BAD);
            e.is(x.want(0, 1), 0);
        });
        e.test("FULL: 12.", x -> {
            x.farm(0);
            for (int w = 0; w < 12; w++) {
                e.is(x.want(0, 101), w);
            }
            e.is(x.want(0, 202), Edges.FULL);
            e.is(x.count(1), 12);
            e.is(x.of(11, 2), 1);
        });
        e.test("BAD, FULL: 12.", x -> {
            x.farm(0);
            for (int w = 0; w < 12; w++) {
                x.want(0, 101);
            }
            e.is(x.want(1, 101), Edges.BAD);
            e.is(x.want(0, 100), Edges.BAD);
            e.is(x.want(0, 3001), Edges.BAD);
        });
    }

    private static void wantsFromRows() {
        e.test("WANTS FROM A ROW on a SHELF, from place i on,", x -> {
            x.farm(0);
            Due.fill(x, 5, 0, 9, 9, 9, 0, 4, 5, 6);
            e.is(x.wants(5, 0, 1), 0);
            e.is(x.wants(5, 2, 1), 0);
            e.is(x.wants(5, 3, 1), 1);
            e.is(x.of(0, 2), 4);
            e.is(x.of(0, 3), 5);
            e.is(x.of(0, 4), 6);
        });
        e.test("n (1 .. 12) of them: how many came.", x -> {
            x.farm(0);
            x.row(0, 0, 60);
            for (int i = 0; i < 15; i++) {
                x.put(0, 4 * i + 2, 1);
            }
            e.is(x.wants(0, 0, 0), Edges.BAD);
            e.is(x.wants(0, 0, 13), Edges.BAD);
            e.is(x.wants(0, 0, -1), Edges.BAD);
            e.is(x.count(1), 0);
            e.is(x.wants(0, 0, 1), 1);
            e.is(x.count(1), 1);
            e.is(x.wants(0, 0, 12), 11);
            e.is(x.count(1), 12);
            e.is(x.wants(0, 0, 12), 0);
        });
        e.test("n (1 .. 12) of them: how many came.", x -> {
            x.farm(0);
            x.row(0, 0, 48);
            for (int i = 0; i < 12; i++) {
                x.put(0, 4 * i + 2, 1 + i);
            }
            e.is(x.wants(0, 0, 12), 12);
            e.is(x.of(11, 3), 12);
        });
        e.test("BAD,", x -> {
            e.is(x.wants(-1, 0, 1), Edges.BAD);
            e.is(x.wants(6, 0, 1), Edges.BAD);
        });
        e.test("-12 (no ROW of bytes;", x -> {
            x.farm(0);
            for (int sort = 1; sort <= 4; sort++) {
                Due.fill(x, 0, sort, 0, 0, 1, 0);
                e.is(x.wants(0, 0, 1), Edges.OTHER);
            }
            x.keep(0, x.body(0));
            e.is(x.wants(0, 0, 1), Edges.OTHER);
            e.is(x.wants(0, -1, 1), Edges.OTHER);
            e.is(x.wants(0, 0, 13), Edges.BAD);
        });
        e.test("a SHELF that holds nothing is missing).", x -> {
            x.farm(0);
            e.is(x.wants(0, 0, 1), 0);
            e.is(x.wants(5, -1, 12), 0);
            e.is(x.wants(5, 0, 13), Edges.BAD);
            x.row(0, 1, 3);
            x.keep(0, -1);
            e.is(x.wants(0, 0, 1), 0);
        });
    }

    private static void mending() {
        e.test("BEES (what 0), VOICES (1) of a FARM, DAY (2), HOURS (3), GAIN (4) of a WANT, COLD (5), BEARS (6), GROWS (7), LEAK (8), NOW (9;", x -> {
            for (int i = 0; i < 4; i++) {
                x.farm(0);
                x.want(i, 101);
            }
            int[] was = {0, 1, 1, 1, 10, 40, 200, 1, 0, 0};
            for (int what = 0; what < 10; what++) {
                e.is(x.mend(what < 5 ? 3 : 0, what, 8), was[what]);
            }
            for (int what = 0; what < 10; what++) {
                e.is(x.of(what < 5 ? 3 : 0, what), 8);
            }
            for (int what = 0; what < 5; what++) {
                e.is(x.of(2, what), was[what]);
            }
        });
        e.test("number 0 for 5 to 9, else BAD)", x -> {
            x.farm(0);
            x.farm(0);
            x.want(0, 1);
            x.want(0, 1);
            for (int what = 5; what <= 9; what++) {
                e.is(x.mend(1, what, 3), Edges.BAD);
                e.is(x.mend(-1, what, 3), Edges.BAD);
                e.is(x.of(1, what), Edges.BAD);
                e.is(x.mend(0, what, 3) >= 0 ? 1 : 0, 1);
            }
        });
        e.test("becomes v: what it was.", x -> {
            e.is(x.mend(0, 5, 40), 40);
            e.is(x.mend(0, 5, 7), 40);
            e.is(x.mend(0, 5, 7), 7);
            e.is(x.mend(0, 5, 0), 7);
            e.is(x.mend(0, 5, 9), 0);
        });
        e.test("what it was. BAD.", x -> {
            x.farm(0);
            x.want(0, 1);
            String before = Edges.all(x);
            for (int what : new int[] {-1, 10, 11, Integer.MIN_VALUE, Integer.MAX_VALUE}) {
                e.is(x.mend(0, what, 0), Edges.BAD);
            }
            for (int what = 0; what < 5; what++) {
                e.is(x.mend(1, what, 1), Edges.BAD);
                e.is(x.mend(-1, what, 1), Edges.BAD);
            }
            e.is(x.mend(0, 3, 0), Edges.BAD);
            e.is(x.mend(0, 6, 0), Edges.BAD);
            e.is(before.equals(Edges.all(x)) ? 1 : 0, 1);
        });
    }

    private static void asking() {
        e.test("As of mend() (0 to 9);", x -> {
            x.farm(4);
            x.want(0, 1317);
            int[] due = {4, 1, 13, 17, 10, 40, 200, 1, 0, 0};
            for (int what = 0; what < 10; what++) {
                e.is(x.of(0, what), due[what]);
                e.is(x.of(1, what), Edges.BAD);
                e.is(x.of(-1, what), Edges.BAD);
            }
        });
        e.test("of a WANT 10 its FARM.", x -> {
            x.farm(0);
            x.farm(0);
            e.is(x.of(0, 10), Edges.BAD);
            x.want(1, 1);
            e.is(x.of(0, 10), 1);
            e.is(x.of(1, 10), Edges.BAD);
            e.is(x.of(-1, 10), Edges.BAD);
            e.is(x.mend(0, 10, 0), Edges.BAD);
            e.is(x.of(0, 10), 1);
        });
        e.test("BAD.", x -> {
            x.farm(0);
            x.want(0, 1);
            for (int what : new int[] {-1, 11, Integer.MIN_VALUE, Integer.MAX_VALUE}) {
                e.is(x.of(0, what), Edges.BAD);
            }
        });
    }
}
