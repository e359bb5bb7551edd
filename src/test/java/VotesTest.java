/** Promises 15 to 19: vote, most, power, agenda, price. */
public final class VotesTest {
    private static final Due DUE = new Due("votes");

    public static void main(String[] args) {
        refusals();
        voting();
        powers();
        agendas();
        prices();
        DUE.end();
    }

    private static void refusals() {
        WinterShed x = new WinterShed();
        x.farm(1);
        for (int dl : new int[] {-1, 25, 99, 2925, 3000, Integer.MIN_VALUE, Integer.MAX_VALUE}) {
            DUE.is("vote(" + dl + ", 0)", x.vote(dl, 0), -1);
        }
        DUE.is("vote(0, 3)", x.vote(0, 3), -1);
        DUE.is("vote(0, -1)", x.vote(0, -1), -1);
        DUE.is("vote(2924, 1)", x.vote(2924, 1), 0);
        DUE.is("most(-1)", x.most(-1), -1);
        DUE.is("most(30)", x.most(30), -1);
        DUE.is("most(29)", x.most(29), -2);
        DUE.is("power(1, 0)", x.power(1, 0), Long.MIN_VALUE);
        DUE.is("power(-1, 0)", x.power(-1, 0), Long.MIN_VALUE);
        DUE.is("power(0, 2)", x.power(0, 2), Long.MIN_VALUE);
        DUE.is("power(0, -1)", x.power(0, -1), Long.MIN_VALUE);
        DUE.is("agenda(-1, 2)", x.agenda(-1, 2), -1);
        DUE.is("agenda(30, 2)", x.agenda(30, 2), -1);
        DUE.is("agenda(0, 3)", x.agenda(0, 3), -1);
        DUE.is("agenda(0, 1 << 25)", x.agenda(0, 1 << 25), -1);
        DUE.is("agenda(0, MIN)", x.agenda(0, Integer.MIN_VALUE), -1);
        DUE.is("price(-1, 0)", x.price(-1, 0), -1);
        DUE.is("price(30, 0)", x.price(30, 0), -1);
        DUE.is("price(0, -2)", x.price(0, -2), -1);
        DUE.is("price(0, 100)", x.price(0, 100), -1);
    }

    private static void voting() {
        WinterShed x = new WinterShed();
        x.farm(1);
        x.farm(2);
        x.farm(9);
        x.want(0, 705);
        x.want(1, 704);
        x.mend(1, 4, 0);
        DUE.is("vote: GAIN 0 is not above 0", x.vote(705, 0), 1);
        DUE.is("vote: 1 of 3", x.vote(705, 1), 0);
        DUE.is("vote: 0 and 1 swing nothing alone", x.vote(705, 2), 6);
        x.mend(1, 4, 1);
        DUE.is("vote: farms 0 and 1", x.vote(705, 0), 3);
        DUE.is("vote: 2 of 3", x.vote(705, 1), 1);
        DUE.is("vote: both decide", x.vote(705, 2), 3);
        DUE.is("vote: hours below the want", x.vote(704, 0), 2);
        DUE.is("most(7)", x.most(7), 24);
        x.mend(2, 1, 2);
        DUE.is("vote: half is not enough", x.vote(705, 1), 0);
        DUE.is("vote: farm 2 would carry it", x.vote(705, 2), 4);
        DUE.is("most(7): none", x.most(7), -2);
        DUE.is("vote on another day", x.vote(805, 0), 0);
        mostBelow24();
    }

    private static void mostBelow24() {
        WinterShed x = new WinterShed();
        x.farm(1);
        x.want(0, 3);
        DUE.is("most(0): its want is met from 3 on", x.most(0), 24);
        DUE.is("vote(2, 0): harmed", x.vote(2, 0), 0);
        DUE.is("vote(0, 0): nothing is above 0", x.vote(0, 0), 0);
    }

    private static void powers() {
        WinterShed x = new WinterShed();
        x.farm(0);
        x.farm(0);
        x.farm(0);
        for (int f = 0; f < 3; f++) {
            DUE.is("power of one of three", x.power(f, 0), 1);
            DUE.is("power of one of three", x.power(f, 1), 2);
        }
        x.mend(0, 1, 2);
        DUE.is("power of 2 in 2 1 1", x.power(0, 0), 3);
        DUE.is("power of 2 in 2 1 1", x.power(0, 1), 4);
        DUE.is("power of 1 in 2 1 1", x.power(1, 0), 1);
        DUE.is("power of 1 in 2 1 1", x.power(1, 1), 4);
        x.mend(1, 1, 0);
        DUE.is("power without voices", x.power(1, 0), 0);
        DUE.is("power without voices: 0 / 1", x.power(1, 1), 1);
    }

    private static void agendas() {
        WinterShed x = new WinterShed();
        x.farm(1);
        x.farm(1);
        x.farm(1);
        x.want(0, 3);
        x.want(1, 3);
        x.want(1, 8);
        x.want(2, 8);
        DUE.is("agenda: 3 against 0", x.agenda(0, 1 << 3), 3);
        DUE.is("agenda: 8 against 0", x.agenda(0, 1 << 8), 8);
        DUE.is("agenda: 8 against 3", x.agenda(0, 1 << 3 | 1 << 8), 8);
        DUE.is("agenda: 2 harms all", x.agenda(0, 1 << 2), 0);
        DUE.is("agenda: like ones stay", x.agenda(0, 1 << 3 | 1 << 4), 3);
        DUE.is("agenda of nothing", x.agenda(0, 0), 0);
        DUE.is("agenda of all", x.agenda(0, 0x1FFFFFE), 8);
        x.mend(1, 1, 0);
        DUE.is("agenda: half is not enough", x.agenda(0, 1 << 3), 0);
    }

    private static void prices() {
        WinterShed x = new WinterShed();
        x.farm(0);
        x.want(0, 3);
        x.want(0, 20);
        x.want(0, 109);
        x.mend(1, 4, 59);
        DUE.is("price(0, 0)", x.price(0, 0), 20);
        DUE.is("price(0, 2): 59 by 20 is 2", x.price(0, 2), 20);
        DUE.is("price(0, 3): 10 by 3 is 3", x.price(0, 3), 37);
        DUE.is("price(0, 4): all", x.price(0, 4), 40);
        DUE.is("price(1, 1)", x.price(1, 1), 31);
        DUE.is("price(2, 99)", x.price(2, 99), 40);
        DUE.is("price(0, -1)", x.price(0, -1), 99);
        x.mend(0, 5, 12);
        DUE.is("price: 0 at least", x.price(0, 1), 0);
        x.mend(0, 5, 0);
        DUE.is("price: the least of like ones", x.price(0, -1), 0);
        x.mend(0, 5, 999);
        x.mend(0, 6, 1);
        DUE.is("price: COLD now", x.price(5, 7), 999);
        bestBelow99();
    }

    private static void bestBelow99() {
        WinterShed x = new WinterShed();
        x.farm(0);
        x.want(0, 1);
        x.mend(0, 4, 99);
        x.mend(0, 5, 1);
        DUE.is("price: nothing is ever sold", x.price(0, -1), 0);
        x.mend(0, 4, 98);
        DUE.is("price: only above the want's worth", x.price(0, -1), 99);
    }
}
