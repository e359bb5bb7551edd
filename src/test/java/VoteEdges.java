/** Boundaries of votes and prices in the terms' part 3, and of promises 15 to 19. */
final class VoteEdges {
    private static final int[] FAR = {Integer.MIN_VALUE, Integer.MAX_VALUE};
    private static Edges e;

    private VoteEdges() { }

    static void hold(Edges edges) {
        e = edges;
        e.of(Edges.TERMS);
        e.told("======== 3");
        votes();
        swings();
        powers();
        agendas();
        prices();
        e.told("Ahead of the calls `vote`, `most`, `power`, `agenda`, `price` the interface says: ---- votes.");
        e.of(15);
        vote();
        e.of(16);
        most();
        e.of(17);
        power();
        e.of(18);
        agenda();
        e.of(19);
        price();
    }

    private static void votes() {
        e.test("VOTE on l hours for a DAY: a FARM says yes, if what it has of it (GAIN of its own WANTS MET, less its own HARM) is above 0;", x -> {
            x.farm(9);
            x.farm(0);
            x.farm(1);
            x.want(0, 705);
            x.want(2, 706);
            x.mend(0, 4, 0);
            e.is(x.vote(705, 0), 0);
            x.mend(0, 4, 1);
            e.is(x.vote(705, 0), 1);
            e.is(x.vote(704, 0), 0);
            e.is(x.vote(706, 0), 1 | 4);
            e.is(x.vote(605, 0), 0);
            e.is(x.vote(700, 0), 0);
            x.mend(0, 5, 0);
            e.is(x.vote(706, 0), 1 | 4);
            x.mend(0, 9, 29);
            e.is(x.vote(706, 0), 1 | 4);
        });
        e.test("it CARRIES, if VOICES for it are more than half of all:", x -> {
            x.farm(0);
            x.farm(0);
            x.want(0, 5);
            e.is(x.vote(5, 1), 0);
            x.mend(0, 1, 2);
            e.is(x.vote(5, 1), 1);
            x.mend(1, 1, 2);
            e.is(x.vote(5, 1), 0);
            x.mend(0, 1, 5);
            x.mend(1, 1, 4);
            e.is(x.vote(5, 1), 1);
            x.mend(1, 1, 6);
            e.is(x.vote(5, 1), 0);
            x.mend(0, 1, 0);
            x.mend(1, 1, 0);
            e.is(x.vote(5, 1), 0);
        });
        e.test("which FARMS (bits) say yes; whether it CARRIES;", x -> {
            e.is(x.vote(5, 0), 0);
            e.is(x.vote(5, 1), 0);
            for (int f = 0; f < 6; f++) {
                x.farm(1);
                x.want(f, 1 + f);
            }
            int[] yes = {0, 1, 3, 7, 15, 31, 63};
            for (int l = 0; l <= 6; l++) {
                e.is(x.vote(l, 0), yes[l]);
                e.is(x.vote(l, 1), l >= 4 ? 1 : 0);
            }
            e.is(x.vote(24, 0), 63);
        });
        e.test("the most hours (0 .. 24) that CARRY on a DAY (NOT).", x -> {
            x.farm(0);
            e.is(x.most(29), Edges.NOT);
            x.want(0, 2924);
            e.is(x.most(29), 24);
            e.is(x.most(28), Edges.NOT);
            x.mend(0, 3, 1);
            e.is(x.most(29), 24);
            x.farm(0);
            e.is(x.most(29), Edges.NOT);
        });
    }

    private static void swings() {
        e.test("SWING: by which FARMS (bits), if they alone said the other thing, it would be the other way.", x -> {
            for (int f = 0; f < 4; f++) {
                x.farm(0);
            }
            x.want(0, 5);
            x.want(1, 5);
            x.mend(0, 1, 3);
            // 4 of 6: without farm 0 it is 1, without farm 1 it is 3; more yes change nothing.
            e.is(x.vote(5, 2), 3);
            x.mend(1, 1, 2);
            // 5 of 7: without farm 1 it is 3, which is no more than half.
            e.is(x.vote(5, 2), 3);
            x.mend(0, 1, 5);
            // 7 of 9: without farm 1 it is still 5.
            e.is(x.vote(5, 2), 1);
        });
        e.test("SWING: by which FARMS (bits), if they alone said the other thing, it would be the other way.", x -> {
            for (int f = 0; f < 4; f++) {
                x.farm(0);
            }
            x.want(3, 5);
            x.mend(0, 1, 2);
            // 1 of 5: farm 0 would make 3 of it, 1 and 2 only 2.
            e.is(x.vote(5, 2), 1);
            x.mend(0, 1, 0);
            // 1 of 3: each other voice would carry it, but none of 0 voices.
            e.is(x.vote(5, 2), 2 | 4);
        });
    }

    private static void powerIs(WinterShed x, int farm, int above, int below) {
        e.is(x.power(farm, 0), above);
        e.is(x.power(farm, 1), below);
    }

    private static void powers() {
        e.test("POWER of a FARM: of all ways in which the others say yes or no, in how large a part it decides:", x -> {
            x.farm(0);
            powerIs(x, 0, 1, 1);
            x.farm(0);
            powerIs(x, 0, 1, 2);
            powerIs(x, 1, 1, 2);
            x.farm(0);
            x.mend(0, 1, 2);
            powerIs(x, 0, 3, 4);
            powerIs(x, 1, 1, 4);
            powerIs(x, 2, 1, 4);
            x.mend(0, 1, 3);
            powerIs(x, 0, 1, 1);
            powerIs(x, 1, 0, 1);
        });
        e.test("a fraction in lowest terms.", x -> {
            for (int f = 0; f < 6; f++) {
                x.farm(0);
            }
            // Of 32 ways 10 have three of five others for it.
            powerIs(x, 0, 5, 16);
            powerIs(x, 5, 5, 16);
            for (int f = 1; f < 6; f++) {
                x.mend(f, 1, 0);
            }
            powerIs(x, 0, 1, 1);
            powerIs(x, 1, 0, 1);
            x.mend(0, 1, 0);
            powerIs(x, 0, 0, 1);
        });
    }

    private static void agendas() {
        e.test("AGENDA: of a set of hours (bits 1 .. 24 of an int: l is bit l) put to the vote from the least up, each against what stands (0 first):", x -> {
            for (int f = 0; f < 3; f++) {
                x.farm(1);
            }
            x.want(0, 3);
            x.want(1, 3);
            x.want(2, 8);
            // 3 stands against 0, and 8 not against 3: farm 2 alone has more of it.
            e.is(x.agenda(0, 1 << 3), 3);
            e.is(x.agenda(0, 1 << 8), 8);
            e.is(x.agenda(0, 1 << 3 | 1 << 8), 3);
            e.is(x.agenda(0, 1 << 2), 0);
            e.is(x.agenda(0, 1 << 2 | 1 << 8), 8);
        });
        e.test("AGENDA: of a set of hours (bits 1 .. 24 of an int: l is bit l)", x -> {
            x.farm(0);
            x.want(0, 1);
            x.want(0, 124);
            e.is(x.agenda(0, 1 << 1), 1);
            e.is(x.agenda(0, 1 << 2), 2);
            e.is(x.agenda(1, 1 << 24), 24);
            e.is(x.agenda(1, 1 << 23), 0);
            e.is(x.agenda(0, 0x1FFFFFE), 1);
            e.is(x.agenda(1, 0x1FFFFFE), 24);
        });
        e.test("it takes its place, if VOICES of FARMS that have more of it than of what stands are more than half:", x -> {
            x.farm(1);
            x.farm(1);
            x.want(0, 3);
            e.is(x.agenda(0, 1 << 3), 0);
            x.mend(0, 1, 2);
            e.is(x.agenda(0, 1 << 3), 3);
            x.mend(1, 1, 2);
            e.is(x.agenda(0, 1 << 3), 0);
            x.mend(1, 1, 0);
            x.mend(0, 1, 1);
            e.is(x.agenda(0, 1 << 3), 3);
            // 4 are as good as 3 to farm 0, and worse to farm 1.
            e.is(x.agenda(0, 1 << 3 | 1 << 4), 3);
        });
        e.test("it takes its place, if VOICES of FARMS that have more of it than of what stands are more than half:", x -> {
            x.farm(1);
            x.want(0, 3);
            x.want(0, 5);
            x.mend(0, 4, 0);
            // 3 hours bring 0, as none do; but 2 bring -2, and 5 bring 10.
            e.is(x.agenda(0, 1 << 3), 0);
            e.is(x.agenda(0, 1 << 2 | 1 << 3 | 1 << 4), 0);
            e.is(x.agenda(0, 1 << 3 | 1 << 5), 5);
            x.mend(1, 4, 1);
            e.is(x.agenda(0, 1 << 5), 5);
        });
        e.test("what stands at the end.", x -> {
            x.farm(0);
            for (int l = 4; l <= 20; l += 4) {
                x.want(0, l);
            }
            e.is(x.agenda(0, 0), 0);
            e.is(x.agenda(0, 1 << 4 | 1 << 9 | 1 << 13), 13);
            e.is(x.agenda(0, 0x1FFFFFE), 20);
        });
    }

    private static void prices() {
        e.test("PRICE: carts offer p (0 .. 99) for an hour of COLD: hours sold are as many as leave the WANTS of a DAY at GAIN no less than p an hour:", x -> {
            x.farm(0);
            x.want(0, 1);
            x.mend(0, 4, 99);
            e.is(x.price(0, 100), Edges.BAD);
            e.is(x.price(0, 99), 39);
            e.is(x.price(0, 0), 39);
            x.mend(0, 4, 98);
            e.is(x.price(0, 99), 40);
            e.is(x.price(0, 98), 39);
        });
        e.test("of COLD now, less HOURS of the greatest WANT of that DAY whose GAIN by HOURS (cut) is p or more", x -> {
            x.farm(0);
            x.farm(9);
            x.want(0, 3);
            x.want(1, 20);
            x.want(0, 109);
            x.mend(1, 4, 59);
            // 10 by 3 are 3, 59 by 20 are 2, 10 by 9 are 1.
            e.is(x.price(0, 2), 20);
            e.is(x.price(0, 3), 37);
            e.is(x.price(0, 4), 40);
            e.is(x.price(1, 1), 31);
            e.is(x.price(1, 2), 40);
            x.mend(1, 4, 60);
            e.is(x.price(0, 3), 20);
            x.mend(1, 4, 0);
            e.is(x.price(0, 0), 20);
            e.is(x.price(0, 1), 37);
        });
        e.test("of COLD now,", x -> {
            x.mend(0, 5, 999);
            x.mend(0, 6, 1);
            e.is(x.price(0, 5), 999);
            x.mend(0, 9, 29);
            e.is(x.price(0, 5), 999);
            e.is(x.price(29, 5), 999);
        });
        e.test("(none: all):", x -> {
            x.farm(0);
            e.is(x.price(0, 0), 40);
            x.want(0, 124);
            e.is(x.price(0, 0), 40);
            e.is(x.price(1, 0), 16);
            e.is(x.price(1, 1), 40);
        });
        e.test("how many hours (0 at least);", x -> {
            x.farm(0);
            x.want(0, 20);
            x.mend(0, 5, 21);
            e.is(x.price(0, 0), 1);
            x.mend(0, 5, 20);
            e.is(x.price(0, 0), 0);
            x.mend(0, 5, 19);
            e.is(x.price(0, 0), 0);
            x.mend(0, 5, 0);
            e.is(x.price(0, 0), 0);
            e.is(x.price(0, 9), 0);
        });
        e.test("the p (of like ones the least) by which p times that is most.", x -> {
            e.is(x.price(0, -1), 99);
            x.mend(0, 5, 0);
            e.is(x.price(0, -1), 0);
            x.mend(0, 5, 1);
            e.is(x.price(0, -1), 99);
            x.farm(0);
            x.want(0, 1);
            e.is(x.price(0, -1), 99);
            x.mend(0, 4, 99);
            e.is(x.price(0, -1), 0);
            x.mend(0, 4, 98);
            e.is(x.price(0, -1), 99);
            e.is(x.price(1, -1), 99);
        });
    }

    private static void vote() {
        e.of(Edges.TERMS);
        e.test("(dl: 100 times the DAY, and hours 0 .. 24).", x -> {
            x.farm(0);
            x.want(0, 2924);
            e.is(x.vote(2924, 0), 1);
            e.is(x.vote(2923, 0), 0);
            e.is(x.vote(0, 0), 0);
            e.is(x.vote(100, 0), 0);
            for (int dl : new int[] {25, 99, 125, 2925, 2999, 3000, 3001, -1, -24, -100, -101}) {
                e.is(x.vote(dl, 0), Edges.BAD);
            }
        });
        e.of(15);
        e.test("Who says yes (what 0: bits), whether it CARRIES (1), SWING (2: bits).", x -> {
            for (int f = 0; f < 5; f++) {
                x.farm(0);
            }
            x.want(2, 5);
            x.want(3, 5);
            x.mend(2, 1, 2);
            x.mend(3, 1, 2);
            // 4 of 7.
            e.is(x.vote(5, 0), 4 | 8);
            e.is(x.vote(5, 1), 1);
            e.is(x.vote(5, 2), 4 | 8);
        });
        e.test("BAD.", x -> {
            x.farm(0);
            for (int what : new int[] {-1, 3, Integer.MIN_VALUE, Integer.MAX_VALUE}) {
                e.is(x.vote(5, what), Edges.BAD);
            }
            for (int dl : FAR) {
                e.is(x.vote(dl, 0), Edges.BAD);
            }
        });
    }

    private static void most() {
        e.test("The most hours that CARRY. BAD;", x -> {
            x.farm(0);
            x.want(0, 5);
            e.is(x.most(0), 24);
            for (int day : new int[] {-1, 30, Integer.MIN_VALUE, Integer.MAX_VALUE}) {
                e.is(x.most(day), Edges.BAD);
            }
        });
        e.test("NOT.", x -> {
            e.is(x.most(0), Edges.NOT);
            e.is(x.most(29), Edges.NOT);
            x.farm(0);
            x.want(0, 5);
            x.mend(0, 4, 0);
            e.is(x.most(0), Edges.NOT);
            x.mend(0, 4, 1);
            e.is(x.most(0), 24);
        });
    }

    private static void power() {
        e.test("POWER of a FARM (part 0 above, 1 below the line).", x -> {
            x.farm(0);
            x.farm(0);
            e.is(x.power(1, 0), 1);
            e.is(x.power(1, 1), 2);
        });
        e.test("Long.MIN_VALUE: BAD.", x -> {
            e.is(x.power(0, 0), Edges.NONE);
            x.farm(0);
            e.is(x.power(0, 0), 1);
            for (int wrong : new int[] {-1, 2, Integer.MIN_VALUE, Integer.MAX_VALUE}) {
                e.is(x.power(0, wrong), Edges.NONE);
                e.is(x.power(wrong, 0), Edges.NONE);
            }
            e.is(x.power(1, 1), Edges.NONE);
        });
    }

    private static void agenda() {
        e.test("AGENDA (set: bits 1 .. 24).", x -> {
            x.farm(0);
            x.want(0, 1);
            e.is(x.agenda(0, 0), 0);
            e.is(x.agenda(0, 2), 1);
            e.is(x.agenda(0, 1 << 24), 24);
            e.is(x.agenda(0, 0x1FFFFFE), 1);
            for (int set : new int[] {1, 3, 1 << 25, 1 << 25 | 2, 1 << 30, 1 << 31, 0x1FFFFFF, -1, -2}) {
                e.is(x.agenda(0, set), Edges.BAD);
            }
        });
        e.test("BAD.", x -> {
            for (int day : new int[] {-1, 30, Integer.MIN_VALUE, Integer.MAX_VALUE}) {
                e.is(x.agenda(day, 2), Edges.BAD);
            }
            e.is(x.agenda(29, 2), 0);
        });
    }

    private static void price() {
        e.test("PRICE: hours sold for p (p 0 on), the best p (-1).", x -> {
            e.is(x.price(29, 0), 40);
            e.is(x.price(29, 99), 40);
            e.is(x.price(29, -1), 99);
        });
        e.test("BAD.", x -> {
            for (int p : new int[] {-2, 100, Integer.MIN_VALUE, Integer.MAX_VALUE}) {
                e.is(x.price(0, p), Edges.BAD);
            }
            for (int day : new int[] {-1, 30, Integer.MIN_VALUE, Integer.MAX_VALUE}) {
                e.is(x.price(day, 0), Edges.BAD);
                e.is(x.price(day, -1), Edges.BAD);
            }
        });
    }
}
