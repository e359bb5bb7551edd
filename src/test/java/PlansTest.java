/** Promises 9 to 14: cold, plan, gives, idle, best, all. */
public final class PlansTest {
    private static final Due DUE = new Due("plans");

    public static void main(String[] args) {
        refusals();
        rowsAsPlans();
        boardsThatGive();
        lasting();
        bests();
        alls();
        DUE.end();
    }

    private static void refusals() {
        WinterShed x = new WinterShed();
        x.farm(1);
        x.mend(0, 9, 5);
        DUE.is("cold(0, 4): ahead of -11", x.cold(0, 4), -1);
        DUE.is("cold(0, 31)", x.cold(0, 31), -1);
        DUE.is("cold(6, 5)", x.cold(6, 5), -1);
        DUE.is("cold(-1, 5)", x.cold(-1, 5), -1);
        DUE.is("cold(0, 5)", x.cold(0, 5), -11);
        DUE.is("plan(0, 30, 0)", x.plan(0, 30, 0), -1);
        DUE.is("plan(0, 4, 0)", x.plan(0, 4, 0), -1);
        DUE.is("plan(0, 5, 4)", x.plan(0, 5, 4), -1);
        DUE.is("plan(0, 5, -1)", x.plan(0, 5, -1), -1);
        DUE.is("plan(0, 5, 9)", x.plan(0, 5, 9), -1);
        DUE.is("plan(0, 5, 11)", x.plan(0, 5, 11), -1);
        DUE.is("plan(0, 5, 10)", x.plan(0, 5, 10), -11);
        DUE.is("gives(0, 2)", x.gives(0, 2), -1);
        DUE.is("gives(0, -1)", x.gives(0, -1), -1);
        DUE.is("gives(6, 0)", x.gives(6, 0), -1);
        DUE.is("gives(0, 0)", x.gives(0, 0), -11);
        x.row(0, 1, 3);
        x.keep(1, x.body(0));
        for (int shelf = 0; shelf < 2; shelf++) {
            DUE.is("cold of another kind", x.cold(shelf, 5), -12);
            DUE.is("plan of another kind", x.plan(shelf, 5, 0), -12);
            DUE.is("gives of another kind", x.gives(shelf, 0), -12);
            DUE.is("cold of another kind, no day", x.cold(shelf, 31), -1);
        }
        DUE.is("idle(4)", x.idle(4), -1);
        DUE.is("idle(31)", x.idle(31), -1);
        DUE.is("idle(5)", x.idle(5), 40);
        DUE.is("idle(30)", x.idle(30), 65);
    }

    private static void rowsAsPlans() {
        WinterShed x = new WinterShed();
        x.farm(2);
        x.farm(3);
        x.want(0, 524);
        x.want(1, 601);
        x.want(1, 401);
        x.mend(0, 9, 5);
        Due.fill(x, 0, 0, 25, -128, 127, 1);
        DUE.is("plan: above 24", x.plan(0, 5, 0), 24);
        DUE.is("plan: below 0", x.plan(0, 6, 0), 0);
        DUE.is("plan: more than there is", x.plan(0, 7, 0), 17);
        DUE.is("cold: all was let out", x.cold(0, 8), 0);
        DUE.is("plan: nothing there", x.plan(0, 8, 0), 0);
        DUE.is("plan: what lacks", x.plan(0, 29, 0), 0);
        DUE.is("cold: it grows again", x.cold(0, 10), 2);
        DUE.is("plan: met", x.plan(0, 29, 1), 1);
        DUE.is("plan: gain", x.plan(0, 29, 2), 10);
        DUE.is("plan: harm to day 5", x.plan(0, 5, 3), 72);
        DUE.is("plan: harm of all", x.plan(0, 29, 3), 24 * 3 + 17 * 5);
        DUE.is("plan: harm of farm 0", x.plan(0, 29, 10), 17 * 2);
        DUE.is("plan: harm of farm 1", x.plan(0, 29, 11), 41 * 3);
    }

    private static void boardsThatGive() {
        WinterShed x = new WinterShed();
        x.row(0, 0, 0);
        x.mend(0, 6, 40);
        DUE.is("gives: COLD is no more than BEARS on day 0", x.gives(0, 0), 1);
        DUE.is("cold on day 1", x.cold(0, 1), 0);
        DUE.is("cold on day 2", x.cold(0, 2), 1);
        DUE.is("gives: LAST", x.gives(0, 1), 1);
        x.mend(0, 6, 68);
        DUE.is("gives on day 29", x.gives(0, 0), 29);
        DUE.is("cold on day 30", x.cold(0, 30), 1);
        x.mend(0, 6, 69);
        DUE.is("gives: never on day 30", x.gives(0, 0), -2);
        DUE.is("cold on day 30 above BEARS", x.cold(0, 30), 70);
        DUE.is("idle(30) above BEARS", x.idle(30), 70);
    }

    private static void lasting() {
        WinterShed x = new WinterShed();
        Due.law(x, "d=29?-99;0");
        x.row(0, 0, 0);
        DUE.is("LAST: behind all", x.gives(0, 1), 30);
        Due.law(x, "d=28?-99;0");
        DUE.is("LAST: day 29", x.gives(0, 1), 29);
        Due.law(x, "0");
        DUE.is("LAST: never", x.gives(0, 1), -2);
        x.mend(0, 5, 0);
        DUE.is("LAST: now", x.gives(0, 1), 0);
    }

    private static void bests() {
        WinterShed x = new WinterShed();
        DUE.is("best(0, -1)", x.best(0, -1), -2000000000);
        DUE.is("best(5, -1)", x.best(5, -1), -2000000000);
        DUE.is("best(4, 4)", x.best(4, 4), -2000000000);
        DUE.is("best(4, -2)", x.best(4, -2), -2000000000);
        x.farm(0);
        x.farm(3);
        x.want(0, 2805);
        x.want(1, 2909);
        x.want(1, 2902);
        x.mend(0, 9, 28);
        x.mend(0, 5, 13);
        Due.law(x, "0");
        // 5 hours harm farm 1 by 15, so day 28 is left; 2 hours on day 29 are all that there is to gain.
        DUE.is("best(4, -1)", x.best(4, -1), 20);
        DUE.is("best(4, 0)", x.best(4, 0), 0);
        DUE.is("best(4, 1)", x.best(4, 1), 9);
        DUE.is("best(4, 2): beyond 29", x.best(4, 2), 0);
        DUE.is("best(4, 3): beyond 29", x.best(4, 3), 0);
        DUE.is("best(1, -1)", x.best(1, -1), 0);
        asTried();
    }

    /** With 15 hours there, 20 tried lets out 15 and meets the want of 12. */
    private static void asTried() {
        WinterShed x = new WinterShed();
        x.farm(0);
        x.want(0, 20);
        x.want(0, 112);
        x.mend(0, 5, 15);
        DUE.is("best: only day 1 can gain", x.best(2, -1), 10);
        DUE.is("best: day 0", x.best(2, 0), 0);
        DUE.is("best: day 1", x.best(2, 1), 12);
        Due.law(x, "l=15?99;0");
        x.mend(0, 5, 15);
        x.mend(1, 3, 24);
        DUE.is("best: all of day 0 grows for day 1", x.best(2, -1), 10);
        DUE.is("best: as tried, though there are fewer", x.best(2, 0), 20);
        DUE.is("best: then day 1", x.best(2, 1), 24);
    }

    private static void alls() {
        WinterShed x = new WinterShed();
        DUE.is("all(-1)", x.all(-1), -1);
        DUE.is("all(2)", x.all(2), -1);
        x.farm(0);
        x.want(0, 520);
        x.want(0, 324);
        x.want(0, 310);
        Due.law(x, "0");
        DUE.is("all(0): 40 are too few", x.all(0), 0);
        DUE.is("all(1)", x.all(1), 44);
        x.mend(0, 5, 44);
        DUE.is("all(0): 44 are enough", x.all(0), -2);
        x.mend(0, 5, 20);
        DUE.is("all(0): the least number", x.all(0), 0);
        x.mend(0, 3, 1);
        DUE.is("all(0): nothing is left for want 0", x.all(0), 0);
        x.mend(0, 2, 2);
        DUE.is("all(0): want 1 of 24", x.all(0), 1);
        x.mend(0, 9, 4);
        DUE.is("all(0): wants before NOW do not count", x.all(0), -2);
        DUE.is("all(1): none from NOW on", x.all(1), 0);
        x.mend(0, 9, 0);
        x.mend(0, 6, 24);
        DUE.is("all(1): 25 is above BEARS", x.all(1), -2);
        x.mend(0, 6, 25);
        DUE.is("all(1): 25", x.all(1), 25);
        Due.law(x, "d=10?99;0");
        DUE.is("all(1): BOARDS GIVE behind the wants", x.all(1), -2);
        mostThatCanBeNeeded();
    }

    private static void mostThatCanBeNeeded() {
        WinterShed x = new WinterShed();
        x.farm(0);
        x.want(0, 1324);
        x.mend(0, 6, 999);
        Due.law(x, "-75");
        DUE.is("all(1): 13 times 75, and 24", x.all(1), 999);
        x.want(0, 1);
        DUE.is("all(1): an hour more is too many", x.all(1), -2);
    }
}
