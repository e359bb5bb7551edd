/** Boundaries of knocking in the terms' part 3, of turns and draws in part 4, and of promises 20 to 24. */
final class KnockEdges {
    private static final int[] WRONG_SHELVES = {-1, 6, Integer.MIN_VALUE, Integer.MAX_VALUE};
    private static Edges e;

    private KnockEdges() { }

    static void hold(Edges edges) {
        e = edges;
        e.of(Edges.TERMS);
        knocks();
        judgements();
        amounts();
        speeds();
        bores();
        e.told("======== 4");
        turns();
        bestTurns();
        summers();
        doors();
        sums();
        e.told("Ahead of the calls `judge`, `knock`, `bore`, `byTurns`, `drawn` the interface says: ---- knocking.");
        e.of(20);
        judge();
        e.of(21);
        knock();
        e.of(22);
        bore();
        e.of(23);
        byTurns();
        e.of(24);
        drawn();
    }

    private static void told(WinterShed x, long... colds) {
        Due.fill(x, 0, 1, colds);
    }

    private static void knocks() {
        e.test("KNOCK: what it answers: COLD, GROWS and LEAK told by a ROW of shorts: COLD as days begin, from NOW on (nothing let out):", x -> {
            x.mend(0, 9, 11);
            told(x, 40, 41, 42);
            e.is(x.judge(0), Edges.NOT);
            x.put(0, 2, 43);
            e.is(x.judge(0), 13);
            told(x, 40 + 65536, 41 - 65536, 42);
            e.is(x.judge(0), Edges.NOT);
        });
        e.test("COLD as days begin, from NOW on (nothing let out):", x -> {
            x.mend(0, 6, 41);
            told(x, 40, 41, 42);
            e.is(x.judge(0), 2);
            told(x, 40, 41, 0, 1);
            e.is(x.judge(0), Edges.NOT);
            x.mend(0, 5, 300);
            told(x, 300);
            e.is(x.judge(0), 0);
            told(x, 0, 1);
            e.is(x.judge(0), Edges.NOT);
        });
    }

    private static void judgements() {
        e.test("JUDGED: the first day (its number, NOW on) that is not so", x -> {
            x.mend(0, 9, 7);
            told(x, 39, 41, 43);
            e.is(x.judge(0), 7);
            told(x, 40, 42, 43);
            e.is(x.judge(0), 8);
            told(x, 40, 41, -42);
            e.is(x.judge(0), 9);
        });
        e.test("(beyond 30, too);", x -> {
            x.mend(0, 9, 28);
            told(x, 40, 41, 42);
            e.is(x.judge(0), Edges.NOT);
            told(x, 40, 41, 43);
            e.is(x.judge(0), 30);
            told(x, 40, 41, 42, 43);
            e.is(x.judge(0), 31);
            told(x, 40, 41, 43, 43);
            e.is(x.judge(0), 30);
            x.mend(0, 6, 41);
            told(x, 40, 41, 42);
            e.is(x.judge(0), Edges.NOT);
        });
        e.test("(beyond 30, too);", x -> {
            x.row(0, 1, 60);
            for (int i = 0; i < 60; i++) {
                x.put(0, i, 40 + i);
            }
            e.is(x.judge(0), 31);
            e.is(x.knock(0, 0), 0);
            e.is(x.knock(0, 1), Edges.NOT);
            e.is(x.knock(0, 2), 0);
            e.is(x.knock(0, 3), Edges.NOT);
        });
        e.test("NOT. HOW MUCH:", x -> {
            x.row(0, 1, 0);
            e.is(x.judge(0), Edges.NOT);
            told(x, 40);
            e.is(x.judge(0), Edges.NOT);
            x.row(0, 1, 31);
            for (int i = 0; i < 31; i++) {
                x.put(0, i, 40 + i);
            }
            e.is(x.judge(0), Edges.NOT);
        });
    }

    private static void amounts() {
        e.test("HOW MUCH: by how many COLDS (0 .. 999), now, all is so;", x -> {
            x.row(0, 1, 0);
            e.is(x.knock(0, 0), 1000);
            x.mend(0, 6, 999);
            told(x, 0);
            e.is(x.knock(0, 0), 1);
            told(x, 999);
            e.is(x.knock(0, 0), 1);
            e.is(x.knock(0, 1), 999);
            told(x, 1000);
            e.is(x.knock(0, 0), 0);
            told(x, -1);
            e.is(x.knock(0, 0), 0);
            told(x, 17, 18);
            e.is(x.knock(0, 0), 1);
            told(x, 17, 19);
            e.is(x.knock(0, 0), 0);
            e.is(x.of(0, 5), 40);
        });
        e.test("HOW MUCH: by how many COLDS (0 .. 999), now, all is so;", x -> {
            told(x, 0, 1);
            // 0 itself, and all above BEARS: 201 .. 999.
            e.is(x.knock(0, 0), 800);
            e.is(x.knock(0, 1), 0);
            x.mend(0, 6, 998);
            e.is(x.knock(0, 0), 2);
            told(x, 40, 41);
            x.mend(0, 6, 39);
            e.is(x.knock(0, 0), 0);
            x.mend(0, 9, 29);
            told(x, 30, 31);
            e.is(x.knock(0, 0), 1);
            told(x, 30, 31, 32);
            e.is(x.knock(0, 0), 0);
        });
        e.test("HOW MUCH: by how many COLDS (0 .. 999), now, all is so;", x -> {
            x.mend(0, 5, 77);
            x.mend(0, 6, 990);
            x.mend(0, 7, 7);
            x.mend(0, 8, 4);
            x.mend(0, 9, 9);
            Due.law(x, "g-k+d%9+(b=990)*20");
            told(x, 50, 50 + 7 - 4 + 20, 50 + 7 - 4 + 20 + 7 - 4 + 1 + 20);
            e.is(x.knock(0, 0), 1);
            e.is(x.knock(0, 1), 50);
        });
        e.test("the least (NOT).", x -> {
            x.row(0, 1, 0);
            e.is(x.knock(0, 1), 0);
            told(x, 123);
            e.is(x.knock(0, 1), 123);
            told(x, 201);
            e.is(x.knock(0, 1), Edges.NOT);
            Due.law(x, "5-c%10");
            x.mend(0, 6, 999);
            told(x, 0);
            e.is(x.knock(0, 1), 0);
        });
    }

    private static void speeds() {
        e.test("HOW FAST: by how many GROWS and LEAKS (both 0 .. 9) all is so;", x -> {
            x.row(0, 1, 0);
            e.is(x.knock(0, 2), 100);
            told(x, 40);
            e.is(x.knock(0, 2), 100);
            told(x, 40, 45);
            // 5 with 0 or 1, 6 with 2 or 3, .. 9 with 8 or 9.
            e.is(x.knock(0, 2), 10);
            told(x, 40, 49);
            e.is(x.knock(0, 2), 2);
            told(x, 40, 50);
            e.is(x.knock(0, 2), 0);
            told(x, 40, 36);
            e.is(x.knock(0, 2), 2);
            told(x, 40, 35);
            e.is(x.knock(0, 2), 0);
            told(x, 41);
            e.is(x.knock(0, 2), 0);
            e.is(x.of(0, 7), 1);
            e.is(x.of(0, 8), 0);
        });
        e.test("HOW FAST: by how many GROWS and LEAKS (both 0 .. 9) all is so;", x -> {
            x.mend(0, 5, 77);
            x.mend(0, 6, 990);
            x.mend(0, 9, 9);
            Due.law(x, "g*10-k+d%9+(b=990)*5");
            told(x, 77, 77 + 34 + 0 + 5, 77 + 34 + 0 + 5 + 34 + 1 + 5);
            // 4 and 6 are the only ones by which 10 times the one less the other is 34.
            e.is(x.knock(0, 2), 1);
            e.is(x.knock(0, 3), 46);
        });
        e.test("the least (10 GROWS and LEAK; NOT).", x -> {
            x.row(0, 1, 0);
            e.is(x.knock(0, 3), 0);
            told(x, 40, 45);
            e.is(x.knock(0, 3), 50);
            told(x, 40, 49);
            e.is(x.knock(0, 3), 90);
            told(x, 40, 36);
            e.is(x.knock(0, 3), 8);
            told(x, 40, 37);
            e.is(x.knock(0, 3), 6);
            told(x, 40, 50);
            e.is(x.knock(0, 3), Edges.NOT);
            Due.law(x, "(g=9&k=9)*7");
            told(x, 40, 47);
            e.is(x.knock(0, 3), 99);
            e.is(x.knock(0, 2), 1);
        });
    }

    private static void bores() {
        e.test("BORE: by how many BEARS (1 .. 999) the BOARDS GIVE first on a told day", x -> {
            e.is(x.bore(0, 0), 39);
            e.is(x.bore(0, 1), 1);
            e.is(x.bore(1, 0), 1);
            e.is(x.bore(1, 1), 40);
            e.is(x.bore(29, 0), 1);
            e.is(x.bore(29, 1), 68);
            Due.law(x, "0");
            e.is(x.bore(0, 0), 39);
            e.is(x.bore(1, 0), 0);
            x.mend(0, 5, 999);
            e.is(x.bore(0, 0), 998);
            e.is(x.bore(0, 1), 1);
            e.is(x.of(0, 6), 200);
        });
        e.test("(nothing let out; 30: never);", x -> {
            e.is(x.bore(30, 0), 999 - 68);
            e.is(x.bore(30, 1), 69);
            x.mend(0, 5, 0);
            x.mend(0, 7, 0);
            e.is(x.bore(30, 0), 999);
            e.is(x.bore(30, 1), 1);
            x.mend(0, 5, 999);
            e.is(x.bore(30, 0), 1);
            e.is(x.bore(30, 1), 999);
            Due.law(x, "(d=29)*99");
            x.mend(0, 5, 40);
            e.is(x.bore(30, 1), 40);
        });
        e.test("the least (NOT).", x -> {
            Due.law(x, "-1");
            e.is(x.bore(0, 1), 1);
            e.is(x.bore(1, 1), Edges.NOT);
            e.is(x.bore(29, 1), Edges.NOT);
            e.is(x.bore(30, 1), 40);
            x.mend(0, 5, 0);
            e.is(x.bore(0, 1), Edges.NOT);
        });
        // At the end of HOW MUCH, and once more behind BORE.
        e.told("(nothing let out; 30: never); the least (NOT).");
    }

    private static void turns() {
        e.test("BY TURNS: two FARMS let out 0 or h (1 .. 24) hours each by turns, n (1 .. 5) times in all, on days from NOW on, one a day", x -> {
            x.farm(0);
            x.farm(1);
            // Farm 0 lets out and harms farm 1; farm 1 lets out nothing in its turns.
            e.is(x.byTurns(1, 1, 0), Edges.VOID);
            e.is(x.byTurns(1, 11, 0), 1);
            e.is(x.byTurns(1, 241, 0), 24);
            e.is(x.byTurns(1, 251, 0), Edges.VOID);
            e.is(x.byTurns(1, 10, 0), Edges.VOID);
            e.is(x.byTurns(1, 12, 0), 1);
            e.is(x.byTurns(1, 13, 0), 2);
            e.is(x.byTurns(1, 14, 0), 2);
            e.is(x.byTurns(1, 15, 0), 3);
            e.is(x.byTurns(1, 16, 0), Edges.VOID);
        });
        e.test("on days from NOW on, one a day", x -> {
            x.farm(0);
            x.farm(0);
            x.mend(0, 9, 10);
            x.want(0, 903);
            x.want(0, 1003);
            x.want(1, 1103);
            x.want(0, 1203);
            x.mend(2, 4, 3);
            e.is(x.byTurns(1, 31, 0), 10);
            e.is(x.byTurns(1, 32, 0), 7);
            e.is(x.byTurns(1, 33, 0), 17);
            e.is(x.byTurns(10, 31, 0), 0);
        });
        e.test("(no more than there is),", x -> {
            x.farm(0);
            x.farm(1);
            x.want(0, 5);
            x.mend(0, 5, 4);
            e.is(x.byTurns(1, 51, 0), 4);
            x.mend(0, 5, 5);
            e.is(x.byTurns(1, 51, 0), 10 + 5);
            x.mend(0, 5, 0);
            e.is(x.byTurns(1, 51, 0), 0);
            x.mend(0, 5, 201);
            e.is(x.byTurns(1, 51, 0), 0);
        });
        e.test("(no more than there is),", x -> {
            x.farm(0);
            x.farm(1);
            e.is(x.byTurns(10, 52, 0), -5);
            x.mend(0, 6, 40);
            // Day 1 begins above BEARS, if nothing is let out on day 0.
            e.is(x.byTurns(10, 52, 0), 0);
            e.is(x.byTurns(10, 52, 1), 0);
        });
        e.test("the first one first", x -> {
            x.farm(0);
            x.farm(0);
            x.want(0, 3);
            x.want(0, 103);
            x.mend(0, 4, 9);
            // Who is first on day 0 lets out for farm 0 or not.
            e.is(x.byTurns(1, 32, 0), 9);
            e.is(x.byTurns(1, 32, 1), 1);
            e.is(x.byTurns(10, 32, 0), -10);
            e.is(x.byTurns(10, 32, 1), 0);
        });
        e.test("(days beyond 29 do not matter):", x -> {
            x.farm(0);
            x.farm(1);
            x.mend(0, 9, 29);
            e.is(x.byTurns(1, 31, 0), 3);
            e.is(x.byTurns(1, 35, 0), 3);
            e.is(x.byTurns(10, 35, 0), 0);
            x.mend(0, 9, 27);
            e.is(x.byTurns(1, 33, 0), 6);
            e.is(x.byTurns(1, 35, 0), 6);
        });
    }

    private static void bestTurns() {
        e.test("each wants what it has (GAIN of its WANTS MET, less its HARM, of all these days) less what the other one has to be most:", x -> {
            x.farm(2);
            x.farm(3);
            x.farm(9);
            x.want(0, 4);
            x.want(0, 5);
            x.want(2, 5);
            // Farm 0 has 20, farm 1 has -15, farm 2 does not matter.
            e.is(x.byTurns(1, 51, 0), 35);
            e.is(x.byTurns(1, 41, 0), 22);
            e.is(x.byTurns(10, 51, 0), 0);
            // 3 hours harm both, farm 1 more.
            e.is(x.byTurns(1, 31, 0), 3);
            e.is(x.byTurns(12, 31, 0), 18);
        });
        e.test("that of the first one, if both do their best;", x -> {
            x.farm(0);
            x.farm(0);
            Due.law(x, "0");
            x.want(0, 3);
            x.want(0, 203);
            x.mend(0, 4, 1);
            x.mend(1, 4, 30);
            // Of 6 hours farm 1 takes 3 away; of 3 hours it would take all.
            x.mend(0, 5, 6);
            e.is(x.byTurns(1, 33, 0), 30);
            e.is(x.byTurns(1, 33, 1), 0);
            x.mend(0, 5, 3);
            e.is(x.byTurns(1, 33, 0), 1);
            e.is(x.byTurns(1, 33, 1), 1);
            x.mend(0, 5, 9);
            e.is(x.byTurns(1, 33, 0), 31);
            e.is(x.byTurns(1, 33, 1), 1);
        });
        e.test("that of the first one, if both do their best;", x -> {
            x.farm(1);
            x.farm(0);
            // Farm 0 is harmed whatever it does but nothing; farm 1 lets out in each of its turns.
            e.is(x.byTurns(1, 25, 0), -4);
            e.is(x.byTurns(1, 25, 1), 0);
            e.is(x.byTurns(10, 25, 0), 6);
            e.is(x.byTurns(10, 25, 1), 1);
        });
        e.test("what he does first (0: nothing, 1; of like ones nothing).", x -> {
            x.farm(0);
            x.farm(0);
            e.is(x.byTurns(1, 51, 1), 0);
            e.is(x.byTurns(1, 55, 1), 0);
            x.mend(1, 0, 1);
            e.is(x.byTurns(1, 51, 1), 1);
            x.mend(0, 0, 1);
            // Both are harmed alike.
            e.is(x.byTurns(1, 51, 1), 0);
            x.mend(1, 0, 0);
            e.is(x.byTurns(1, 51, 1), 0);
        });
    }

    /** The draws of a seed, the first one first. */
    private static int[] draws(int seed, int n) {
        int[] draws = new int[n];
        int z = seed;
        for (int i = 0; i < n; i++) {
            z = z * 1103515245 + 12345;
            draws[i] = z;
        }
        return draws;
    }

    private static int hours(int draw) {
        return 1 + (draw >>> 16) % 24;
    }

    private static void summers() {
        e.test("DRAWN: n summers (1 .. 30) of m (1 .. 30) days", x -> {
            x.farm(1);
            x.mend(0, 5, 999);
            x.mend(0, 6, 999);
            x.row(0, 0, 30);
            for (int i = 0; i < 30; i++) {
                x.put(0, i, 1);
            }
            e.is(x.drawn(0, 1, 100, 0), Edges.VOID);
            e.is(x.drawn(0, 1, 10000, 0), Edges.VOID);
            e.is(x.drawn(0, 1, 10100, 0), 1);
            e.is(x.drawn(0, 1, 303000, 0), 900);
            e.is(x.drawn(0, 1, 310100, 0), Edges.VOID);
            e.is(x.drawn(0, 1, 13100, 0), Edges.VOID);
            e.is(x.drawn(0, 1, 20700, 0), 14);
        });
        e.test("from NOW (to 29 at most)", x -> {
            x.farm(1);
            x.want(0, 2701);
            x.mend(0, 9, 28);
            Due.fill(x, 0, 0, 3, 4, 5, 6);
            e.is(x.drawn(0, 1, 10100, 0), 3);
            e.is(x.drawn(0, 1, 10200, 0), 7);
            e.is(x.drawn(0, 1, 10300, 0), 7);
            e.is(x.drawn(0, 1, 13000, 0), 7);
            e.is(x.drawn(0, 1, 23000, 0), 14);
        });
        e.test("by a SEED: z = z * 1103515245 + 12345 (an int; SEED at first) ahead of each day:", x -> {
            x.farm(1);
            x.mend(0, 5, 900);
            x.mend(0, 6, 999);
            x.row(0, 0, 0);
            for (int seed : new int[] {0, 1, -1, 77, Integer.MIN_VALUE, Integer.MAX_VALUE}) {
                int[] z = draws(seed, 6);
                e.is(x.drawn(0, seed, 10112, 0), hours(z[0]));
                e.is(x.drawn(0, seed, 10212, 0), hours(z[0]) + hours(z[1]));
                // The draws go on from summer to summer.
                e.is(x.drawn(0, seed, 30212, 0), hours(z[0]) + hours(z[1]) + hours(z[2]) + hours(z[3]) + hours(z[4]) + hours(z[5]));
                e.is(x.drawn(0, seed, 30112, 0), hours(z[0]) + hours(z[1]) + hours(z[2]));
            }
        });
        e.test("ahead of each day:", x -> {
            x.farm(1);
            x.mend(0, 9, 29);
            x.row(0, 0, 0);
            int[] z = draws(5, 3);
            // No draw for days beyond 29, so the second summer takes the second draw.
            e.is(x.drawn(0, 5, 33012, 0), hours(z[0]) + hours(z[1]) + hours(z[2]));
        });
    }

    private static void doors() {
        e.test("a door is left open, if (z >>> 8) % 12 is below OPEN (0 .. 12, told):", x -> {
            x.farm(1);
            x.mend(0, 5, 100);
            Due.fill(x, 0, 0, 0);
            boolean[] seen = new boolean[12];
            for (int seed = 0; seed < 60; seed++) {
                int z = draws(seed, 1)[0];
                int below = (z >>> 8) % 12;
                if (!seen[below]) {
                    seen[below] = true;
                    e.is(x.drawn(0, seed, 10100 + below, 0), 0);
                    e.is(x.drawn(0, seed, 10101 + below, 0), hours(z));
                }
            }
            for (boolean one : seen) {
                e.is(one ? 1 : 0, 1);
            }
            e.is(x.drawn(0, 1, 10113, 0), Edges.VOID);
            e.is(x.drawn(0, 1, 10199, 0), Edges.VOID);
            e.is(x.drawn(0, 1, 10099, 0), Edges.VOID);
        });
        e.test("then 1 and (z >>> 16) % 24 hours are let out,", x -> {
            x.farm(1);
            x.mend(0, 5, 100);
            Due.fill(x, 0, 0, 9);
            boolean[] seen = new boolean[25];
            for (int seed = -200; seed < 200; seed++) {
                int l = hours(draws(seed, 1)[0]);
                if (!seen[l]) {
                    seen[l] = true;
                    e.is(x.drawn(0, seed, 10112, 0), l);
                }
            }
            e.is(seen[1] && seen[24] ? 1 : 0, 1);
            x.mend(0, 5, 0);
            e.is(x.drawn(0, 1, 10112, 0), 0);
        });
        e.test("else what a PLAN says:", x -> {
            x.farm(1);
            Due.fill(x, 0, 0, 7, -3, 99, 24);
            e.is(x.drawn(0, 1, 10100, 0), 7);
            e.is(x.drawn(0, 1, 10200, 0), 7);
            e.is(x.drawn(0, 1, 10300, 0), 31);
            // 7 of 40, one more comes, 24 of 34, 10 are left.
            e.is(x.drawn(0, 1, 10400, 0), 41);
            e.is(x.drawn(0, 1, 20400, 0), 82);
            x.row(0, 0, 0);
            e.is(x.drawn(0, 1, 303000, 0), 0);
        });
    }

    private static void sums() {
        e.test("HARM of all, all together;", x -> {
            x.farm(2);
            x.farm(3);
            x.want(0, 105);
            Due.fill(x, 0, 0, 4, 5);
            e.is(x.drawn(0, 1, 10200, 0), 20 + 15);
            e.is(x.drawn(0, 1, 40200, 0), 4 * 35);
        });
        e.test("how often BOARDS GIVE (once each summer at most counts).", x -> {
            x.row(0, 0, 0);
            Due.law(x, "60");
            x.mend(0, 6, 50);
            e.is(x.drawn(0, 1, 10100, 1), 0);
            e.is(x.drawn(0, 1, 10200, 1), 1);
            e.is(x.drawn(0, 1, 13000, 1), 1);
            e.is(x.drawn(0, 1, 303000, 1), 30);
            x.mend(0, 6, 40);
            e.is(x.drawn(0, 1, 10100, 1), 0);
            x.mend(0, 6, 39);
            e.is(x.drawn(0, 1, 10100, 1), 1);
            // On the first day only.
            Due.law(x, "1");
            e.is(x.drawn(0, 1, 20900, 1), 2);
        });
        e.test("how often BOARDS GIVE (once each summer at most counts).", x -> {
            x.row(0, 0, 0);
            x.mend(0, 9, 28);
            x.mend(0, 6, 40);
            e.is(x.drawn(0, 1, 20100, 1), 0);
            e.is(x.drawn(0, 1, 20200, 1), 2);
            x.mend(0, 6, 41);
            // Above BEARS on day 30 only.
            e.is(x.drawn(0, 1, 23000, 1), 0);
        });
    }

    private static void judge() {
        e.test("JUDGED (no ROW of shorts: -12).", x -> {
            for (int sort : new int[] {0, 2, 3, 4}) {
                x.row(0, sort, 0);
                e.is(x.judge(0), Edges.OTHER);
            }
            x.keep(0, x.body(0));
            e.is(x.judge(0), Edges.OTHER);
        });
        e.test("BAD, -11, -12;", x -> {
            for (int shelf : WRONG_SHELVES) {
                e.is(x.judge(shelf), Edges.BAD);
            }
            for (int shelf = 0; shelf < 6; shelf++) {
                e.is(x.judge(shelf), Edges.MISSING);
                x.row(shelf, 1, 0);
                e.is(x.judge(shelf), Edges.NOT);
            }
        });
        e.test("NOT.", x -> {
            told(x, 40, 41);
            e.is(x.judge(0), Edges.NOT);
            told(x, 40, 40);
            e.is(x.judge(0), 1);
        });
    }

    private static void knock() {
        e.test("HOW MUCH: how many (what 0), the least (1; NOT);", x -> {
            told(x, 30, 31);
            e.is(x.knock(0, 0), 1);
            e.is(x.knock(0, 1), 30);
            told(x, 30, 30);
            e.is(x.knock(0, 0), 0);
            e.is(x.knock(0, 1), Edges.NOT);
        });
        e.test("HOW FAST: how many (2), the least (3; NOT).", x -> {
            told(x, 40, 48);
            e.is(x.knock(0, 2), 4);
            e.is(x.knock(0, 3), 80);
            told(x, 39);
            e.is(x.knock(0, 2), 0);
            e.is(x.knock(0, 3), Edges.NOT);
        });
        e.test("BAD,", x -> {
            x.row(0, 1, 0);
            for (int what : new int[] {-1, 4, Integer.MIN_VALUE, Integer.MAX_VALUE}) {
                e.is(x.knock(0, what), Edges.BAD);
                e.is(x.knock(1, what), Edges.BAD);
            }
            for (int shelf : WRONG_SHELVES) {
                e.is(x.knock(shelf, 0), Edges.BAD);
            }
        });
        e.test("-11, -12.", x -> {
            for (int what = 0; what < 4; what++) {
                e.is(x.knock(0, what), Edges.MISSING);
                e.is(x.knock(5, what), Edges.MISSING);
            }
            for (int sort : new int[] {0, 2, 3, 4}) {
                x.row(0, sort, 1);
                for (int what = 0; what < 4; what++) {
                    e.is(x.knock(0, what), Edges.OTHER);
                }
            }
            x.keep(0, x.body(0));
            e.is(x.knock(0, 0), Edges.OTHER);
            e.is(x.knock(0, 4), Edges.BAD);
        });
    }

    private static void bore() {
        e.test("BORE (a day NOW to 29, or 30):", x -> {
            e.is(x.bore(-1, 0), Edges.BAD);
            e.is(x.bore(31, 0), Edges.BAD);
            x.mend(0, 9, 29);
            e.is(x.bore(28, 0), Edges.BAD);
            e.is(x.bore(29, 0), 39);
            e.is(x.bore(30, 0), 960);
        });
        e.test("how many (what 0), the least (1; NOT). BAD.", x -> {
            e.is(x.bore(3, 0), 1);
            e.is(x.bore(3, 1), 42);
            x.mend(0, 7, 0);
            e.is(x.bore(3, 0), 0);
            e.is(x.bore(3, 1), Edges.NOT);
            for (int wrong : new int[] {-1, 2, Integer.MIN_VALUE, Integer.MAX_VALUE}) {
                e.is(x.bore(3, wrong), Edges.BAD);
            }
            e.is(x.bore(Integer.MIN_VALUE, 0), Edges.BAD);
            e.is(x.bore(Integer.MAX_VALUE, 0), Edges.BAD);
        });
    }

    private static void byTurns() {
        e.test("BY TURNS (ab: 10 times the one FARM, and the other, unlike; hn: 10 h, and n):", x -> {
            for (int f = 0; f < 6; f++) {
                x.farm(f);
            }
            e.is(x.byTurns(5, 31, 0), 15);
            e.is(x.byTurns(45, 31, 0), 3);
            e.is(x.byTurns(54, 31, 0), 0);
            e.is(x.byTurns(50, 31, 1), 0);
            for (int ab : new int[] {0, 11, 22, 33, 44, 55}) {
                e.is(x.byTurns(ab, 31, 0), Edges.VOID);
            }
        });
        e.test("that (what 0), what he does first (1). VOID: BAD.", x -> {
            x.farm(0);
            x.farm(2);
            e.is(x.byTurns(1, 31, 0), 6);
            e.is(x.byTurns(1, 31, 1), 1);
            for (int wrong : new int[] {-1, 2, Integer.MIN_VALUE, Integer.MAX_VALUE}) {
                e.is(x.byTurns(1, 31, wrong), Edges.VOID);
            }
        });
        e.test("VOID: BAD.", x -> {
            x.farm(0);
            e.is(x.byTurns(1, 31, 0), Edges.VOID);
            e.is(x.byTurns(10, 31, 0), Edges.VOID);
            x.farm(2);
            for (int ab : new int[] {2, 12, 20, 21, 6, 60, 100, 101, 110, -1, -10, -11, Integer.MIN_VALUE, Integer.MAX_VALUE}) {
                e.is(x.byTurns(ab, 31, 0), Edges.VOID);
            }
            for (int hn : new int[] {0, 1, 5, 9, 10, 16, 19, 20, 30, 240, 246, 251, -1, -11, -31, Integer.MIN_VALUE, Integer.MAX_VALUE}) {
                e.is(x.byTurns(1, hn, 0), Edges.VOID);
            }
            e.is(x.byTurns(1, 15, 1), 1);
            e.is(x.byTurns(1, 241, 1), 1);
        });
    }

    private static void drawn() {
        e.test("DRAWN of a PLAN (nmo: 10000 n, 100 m, and OPEN):", x -> {
            x.farm(1);
            Due.fill(x, 0, 0, 1, 2, 4);
            e.is(x.drawn(0, 1, 50300, 0), 35);
            e.is(x.drawn(0, 1, 300200, 0), 90);
            for (int nmo : new int[] {0, 12, 112, 3012, 10000, 10012, 10113, 10199, 13100, 13112, 19900, 310100, 1000000, 1010112,
                -1, -10100, -303012, Integer.MIN_VALUE, Integer.MAX_VALUE}) {
                e.is(x.drawn(0, 1, nmo, 0), Edges.VOID);
            }
        });
        e.test("HARM (what 0), how often BOARDS GIVE (1).", x -> {
            x.farm(3);
            Due.fill(x, 0, 0, 0, 2);
            e.is(x.drawn(0, 1, 20200, 0), 12);
            e.is(x.drawn(0, 1, 20200, 1), 0);
            x.mend(0, 6, 40);
            e.is(x.drawn(0, 1, 20200, 0), 0);
            e.is(x.drawn(0, 1, 20200, 1), 2);
        });
        e.test("VOID: BAD, no ROW of bytes.", x -> {
            for (int shelf : WRONG_SHELVES) {
                e.is(x.drawn(shelf, 1, 10100, 0), Edges.VOID);
            }
            e.is(x.drawn(0, 1, 10100, 0), Edges.VOID);
            for (int sort = 1; sort <= 4; sort++) {
                x.row(0, sort, 1);
                e.is(x.drawn(0, 1, 10100, 0), Edges.VOID);
            }
            x.keep(0, x.body(0));
            e.is(x.drawn(0, 1, 10100, 0), Edges.VOID);
            x.row(0, 0, 0);
            e.is(x.drawn(0, 1, 10100, 0), 0);
            for (int what : new int[] {-1, 2, Integer.MIN_VALUE, Integer.MAX_VALUE}) {
                e.is(x.drawn(0, 1, 10100, what), Edges.VOID);
            }
        });
    }
}
