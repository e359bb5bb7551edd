/** Promises 20 to 24: judge, knock, bore, byTurns, drawn. */
public final class KnockingTest {
    private static final Due DUE = new Due("knocking");

    public static void main(String[] args) {
        refusals();
        judging();
        knocking();
        boring();
        turns();
        turnsRefused();
        draws();
        drawsRefused();
        DUE.end();
    }

    private static void refusals() {
        WinterShed x = new WinterShed();
        DUE.is("judge(-1)", x.judge(-1), -1);
        DUE.is("judge(6)", x.judge(6), -1);
        DUE.is("judge(5)", x.judge(5), -11);
        DUE.is("knock(5, 4)", x.knock(5, 4), -1);
        DUE.is("knock(5, -1)", x.knock(5, -1), -1);
        DUE.is("knock(6, 0)", x.knock(6, 0), -1);
        DUE.is("knock(5, 3)", x.knock(5, 3), -11);
        x.keep(5, x.body(1));
        DUE.is("judge of a FROST", x.judge(5), -12);
        DUE.is("knock of a FROST", x.knock(5, 0), -12);
        for (int sort : new int[] {0, 2, 3, 4}) {
            x.row(5, sort, 1);
            DUE.is("judge of another sort", x.judge(5), -12);
            DUE.is("knock of another sort", x.knock(5, 1), -12);
        }
    }

    private static void judging() {
        WinterShed x = new WinterShed();
        x.mend(0, 9, 27);
        Due.fill(x, 0, 1, 40, 41, 42, 43);
        DUE.is("judge: all so to day 30", x.judge(0), -2);
        Due.fill(x, 0, 1, 40, 41, 42, 43, 44);
        DUE.is("judge: beyond 30", x.judge(0), 31);
        Due.fill(x, 0, 1, 40, 41, 41, 43, 44);
        DUE.is("judge: day 29", x.judge(0), 29);
        Due.fill(x, 0, 1, -40);
        DUE.is("judge: now", x.judge(0), 27);
        x.mend(0, 6, 41);
        Due.fill(x, 0, 1, 40, 41, 0, 1);
        DUE.is("judge: BOARDS GIVE", x.judge(0), -2);
        x.mend(0, 6, 42);
        Due.fill(x, 0, 1, 40, 41, 42, 43);
        DUE.is("judge: none GIVE on day 30", x.judge(0), -2);
    }

    private static void knocking() {
        WinterShed x = new WinterShed();
        Due.fill(x, 0, 1, 0);
        DUE.is("knock: 0, and all above BEARS", x.knock(0, 0), 800);
        DUE.is("knock: the least", x.knock(0, 1), 0);
        DUE.is("knock: 40 now is not 0", x.knock(0, 2), 0);
        DUE.is("knock: NOT", x.knock(0, 3), -2);
        Due.fill(x, 0, 1, 50, 55);
        DUE.is("knock: 50 and 1 is not 55", x.knock(0, 0), 0);
        DUE.is("knock: NOT", x.knock(0, 1), -2);
        Due.fill(x, 0, 1, 40, 45);
        DUE.is("knock: 5 0, 5 1, 6 2, ..", x.knock(0, 2), 10);
        DUE.is("knock: 5 and 0", x.knock(0, 3), 50);
        Due.fill(x, 0, 1, 40, 37);
        DUE.is("knock: 0 6, 0 7, 1 8, 1 9", x.knock(0, 2), 4);
        DUE.is("knock: 0 and 6", x.knock(0, 3), 6);
        DUE.is("of(0, 5): nothing has changed", x.of(0, 5), 40);
        DUE.is("of(0, 7): nothing has changed", x.of(0, 7), 1);
        x.mend(0, 9, 29);
        Due.fill(x, 0, 1, 40, 41, 42);
        DUE.is("knock: beyond 30 nothing is so", x.knock(0, 0), 0);
        DUE.is("knock: beyond 30 nothing is so", x.knock(0, 3), -2);
    }

    private static void boring() {
        WinterShed x = new WinterShed();
        x.mend(0, 9, 10);
        DUE.is("bore(9, 0)", x.bore(9, 0), -1);
        DUE.is("bore(31, 0)", x.bore(31, 0), -1);
        DUE.is("bore(10, 2)", x.bore(10, 2), -1);
        DUE.is("bore(10, -1)", x.bore(10, -1), -1);
        DUE.is("bore(10, 0)", x.bore(10, 0), 39);
        DUE.is("bore(10, 1)", x.bore(10, 1), 1);
        DUE.is("bore(12, 0)", x.bore(12, 0), 1);
        DUE.is("bore(12, 1)", x.bore(12, 1), 41);
        DUE.is("bore(30, 0)", x.bore(30, 0), 941);
        DUE.is("bore(30, 1)", x.bore(30, 1), 59);
        Due.law(x, "-1");
        DUE.is("bore(12, 0): it shrinks", x.bore(12, 0), 0);
        DUE.is("bore(12, 1): NOT", x.bore(12, 1), -2);
        Due.law(x, "b%2*9");
        DUE.is("bore by BEARS that the law names", x.bore(11, 0), 4);
        DUE.is("bore by BEARS that the law names: 41 43 45 47", x.bore(11, 1), 41);
        DUE.is("of(0, 6): nothing has changed", x.of(0, 6), 200);
    }

    private static void turns() {
        WinterShed x = new WinterShed();
        x.farm(0);
        x.farm(2);
        x.want(0, 2905);
        x.want(1, 2805);
        x.mend(0, 9, 28);
        // Farm 0 first: 5 on day 28 give farm 1 its want; farm 1 then lets out nothing.
        DUE.is("byTurns: that", x.byTurns(1, 52, 0), 0);
        DUE.is("byTurns: nothing first", x.byTurns(1, 52, 1), 0);
        // Farm 1 first: it takes its 10, and farm 0 takes its 10 and harms farm 1 by 10.
        DUE.is("byTurns: farm 1 first", x.byTurns(10, 52, 0), -10);
        DUE.is("byTurns: farm 1 lets out", x.byTurns(10, 52, 1), 1);
        DUE.is("byTurns: days beyond 29 do not matter", x.byTurns(10, 55, 0), -10);
        DUE.is("byTurns: day 28 alone", x.byTurns(10, 51, 0), 10);
        x.mend(0, 5, 4);
        DUE.is("byTurns: no more than there is", x.byTurns(10, 51, 0), 0);
        DUE.is("byTurns: farm 1 would be harmed by 4 hours", x.byTurns(1, 51, 0), 8);
        DUE.is("byTurns: farm 0 lets out", x.byTurns(1, 51, 1), 1);
    }

    private static void turnsRefused() {
        WinterShed x = new WinterShed();
        x.farm(0);
        x.farm(2);
        for (int ab : new int[] {0, 11, 2, 20, 12, -1, -10, 101, Integer.MAX_VALUE, Integer.MIN_VALUE}) {
            DUE.is("byTurns(" + ab + ", 11, 0)", x.byTurns(ab, 11, 0), -2000000000);
        }
        for (int hn : new int[] {0, 1, 10, 16, 251, 246, -11, Integer.MAX_VALUE, Integer.MIN_VALUE}) {
            DUE.is("byTurns(1, " + hn + ", 0)", x.byTurns(1, hn, 0), -2000000000);
        }
        DUE.is("byTurns(1, 11, 2)", x.byTurns(1, 11, 2), -2000000000);
        DUE.is("byTurns(1, 11, -1)", x.byTurns(1, 11, -1), -2000000000);
        DUE.is("byTurns(1, 241, 1)", x.byTurns(1, 241, 1), 1);
        // Nothing twice, 24 of 42 by farm 0, and farm 1 itself lets out the 18 that else would be 19.
        DUE.is("byTurns(1, 245, 0)", x.byTurns(1, 245, 0), 84);
        DUE.is("byTurns(1, 245, 1)", x.byTurns(1, 245, 1), 0);
    }

    private static void draws() {
        WinterShed x = new WinterShed();
        x.farm(1);
        Due.fill(x, 0, 0, 2, 3);
        DUE.is("drawn: a plan alone, 2 summers", x.drawn(0, 9, 20200, 0), 10);
        int z = 9 * 1103515245 + 12345;
        DUE.is("drawn: always open, a day", x.drawn(0, 9, 10112, 0), 1 + (z >>> 16) % 24);
        int z2 = z * 1103515245 + 12345;
        DUE.is("drawn: z goes on through summers", x.drawn(0, 9, 20112, 0), 2 + (z >>> 16) % 24 + (z2 >>> 16) % 24);
        x.mend(0, 6, 40);
        DUE.is("drawn: let out, none GIVE", x.drawn(0, 9, 50200, 1), 0);
        x.row(0, 0, 0);
        DUE.is("drawn: once each summer", x.drawn(0, 9, 53000, 1), 5);
        DUE.is("drawn: not yet on day 0", x.drawn(0, 9, 50100, 1), 0);
        x.mend(0, 9, 29);
        DUE.is("drawn: to 29 at most", x.drawn(0, 9, 53000, 1), 0);
        x.mend(0, 6, 39);
        DUE.is("drawn: they GIVE now", x.drawn(0, 9, 53000, 1), 5);
    }

    private static void drawsRefused() {
        WinterShed x = new WinterShed();
        x.row(0, 0, 4);
        x.row(1, 1, 4);
        x.keep(2, x.body(0));
        for (int nmo : new int[] {0, 100, 10000, 13100, 10113, 310100, -10100, Integer.MAX_VALUE, Integer.MIN_VALUE}) {
            DUE.is("drawn(0, 1, " + nmo + ", 0)", x.drawn(0, 1, nmo, 0), -2000000000);
        }
        for (int shelf : new int[] {-1, 6, 1, 2, 3}) {
            DUE.is("drawn(" + shelf + ", 1, 10100, 0)", x.drawn(shelf, 1, 10100, 0), -2000000000);
        }
        DUE.is("drawn(0, 1, 10100, 2)", x.drawn(0, 1, 10100, 2), -2000000000);
        DUE.is("drawn(0, 1, 10100, -1)", x.drawn(0, 1, 10100, -1), -2000000000);
        DUE.is("drawn(0, 1, 303012, 0)", x.drawn(0, 1, 303012, 0), 0);
    }
}
