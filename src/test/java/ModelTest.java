import java.util.ArrayList;
import java.util.List;
import java.util.Random;
import java.util.function.IntUnaryOperator;

/** Promises 9 to 24 on sheds by draws, each answer against the plain Model. */
public final class ModelTest {
    private static final Due DUE = new Due("model");
    private static final String[] LAWS = {
        null, "g*(l=0)+c/20-k-d%3+b/300", "c>150?-60;g*3", "l?-l;d%7=3?99;c<30?9;2-k",
        "b-c", "c*c-99", "-c/3+g", "d<5?5;-5", "!l*c/4", "0", "(b%2)*9+g",
    };

    public static void main(String[] args) {
        Random r = new Random(3);
        for (int i = 0; i < 330; i++) {
            String law = LAWS[i % LAWS.length];
            WinterShed x = shed(r, law);
            Model m = new Model(x, law);
            plans(r, x, m);
            votes(r, x, m);
            turnsAndDraws(r, x, m);
            knocks(r, x, m, i % 6 == 0);
            if (i % 20 == 0) {
                bores(r, x, m);
            }
        }
        DUE.end();
    }

    private static WinterShed shed(Random r, String law) {
        WinterShed x = new WinterShed();
        int span = r.nextBoolean() ? 30 : 6;
        int from = r.nextInt(31 - span);
        for (int f = r.nextInt(7); f > 0; f--) {
            x.mend(x.farm(r.nextInt(10)), 1, r.nextInt(10));
        }
        for (int w = r.nextInt(13); w > 0 && x.count(0) > 0; w--) {
            int number = x.want(r.nextInt(x.count(0)), 100 * (from + r.nextInt(span)) + 1 + r.nextInt(24));
            x.mend(number, 4, r.nextInt(100));
        }
        x.mend(0, 5, r.nextInt(r.nextBoolean() ? 1000 : 80));
        x.mend(0, 6, 1 + r.nextInt(r.nextBoolean() ? 999 : 120));
        x.mend(0, 7, r.nextInt(10));
        x.mend(0, 8, r.nextInt(10));
        x.mend(0, 9, r.nextInt(3) == 0 ? 26 + r.nextInt(4) : from);
        if (law != null) {
            Due.law(x, law);
        }
        return x;
    }

    private static IntUnaryOperator rowPlan(Random r, WinterShed x, Model m) {
        int n = r.nextInt(61);
        x.row(0, 0, n);
        for (int i = 0; i < n; i++) {
            x.put(0, i, r.nextInt(4) == 0 ? r.nextInt(256) : r.nextInt(3) * r.nextInt(14));
        }
        return d -> d - m.now < n ? (int) x.element(0, d - m.now) : 0;
    }

    private static void plans(Random r, WinterShed x, Model m) {
        IntUnaryOperator plan = rowPlan(r, x, m);
        for (int day = m.now; day <= 30; day++) {
            DUE.is("cold", x.cold(0, day), m.coldOn(day, plan));
            DUE.is("idle", x.idle(day), m.coldOn(day, d -> 0));
        }
        for (int day = m.now; day <= 29; day += 1 + r.nextInt(5)) {
            for (int what = 0; what < 4; what++) {
                DUE.is("plan " + what, x.plan(0, day, what), m.planSum(plan, day, what));
            }
            for (int f = 0; f < m.bees.size(); f++) {
                DUE.is("plan of farm", x.plan(0, day, 10 + f), m.planSum(plan, day, 10 + f));
            }
        }
        DUE.is("gives 0", x.gives(0, 0), m.gives(plan));
        DUE.is("gives 1", x.gives(0, 1), m.last(plan));
        int t = 1 + r.nextInt(4);
        int[] best = m.best(t);
        for (int k = -1; k < t; k++) {
            DUE.is("best " + t + " " + k, x.best(t, k), best[k + 1]);
        }
        DUE.is("all 0", x.all(0), m.firstUnmet());
        DUE.is("all 1", x.all(1), m.leastCold());
    }

    private static void votes(Random r, WinterShed x, Model m) {
        for (int i = 0; i < 12; i++) {
            int day = i < m.wants.size() ? m.wants.get(i).day() : r.nextInt(30);
            int l = r.nextInt(25);
            DUE.is("vote 0", x.vote(100 * day + l, 0), m.yes(day, l));
            DUE.is("vote 1", x.vote(100 * day + l, 1), m.carries(m.yes(day, l)) ? 1 : 0);
            DUE.is("vote 2", x.vote(100 * day + l, 2), m.swing(day, l));
            DUE.is("most", x.most(day), m.most(day));
            int set = r.nextInt(1 << 24) << 1;
            DUE.is("agenda", x.agenda(day, set), m.agenda(day, set));
            int p = r.nextInt(r.nextBoolean() ? 100 : 12);
            DUE.is("price", x.price(day, p), m.sold(day, p));
            DUE.is("price -1", x.price(day, -1), m.bestPrice(day));
        }
        for (int f = 0; f < m.bees.size(); f++) {
            DUE.is("power 0", x.power(f, 0), m.power(f)[0]);
            DUE.is("power 1", x.power(f, 1), m.power(f)[1]);
        }
    }

    private static void turnsAndDraws(Random r, WinterShed x, Model m) {
        for (int i = 0; i < 4 && m.bees.size() > 1; i++) {
            int a = r.nextInt(m.bees.size());
            int b = (a + 1 + r.nextInt(m.bees.size() - 1)) % m.bees.size();
            int h = 1 + r.nextInt(24);
            int n = 1 + r.nextInt(5);
            int nothing = m.byTurns(a, b, h, n, new ArrayList<>(List.of(0)));
            int something = m.byTurns(a, b, h, n, new ArrayList<>(List.of(h)));
            DUE.is("byTurns 0", x.byTurns(10 * a + b, 10 * h + n, 0), Math.max(nothing, something));
            DUE.is("byTurns 1", x.byTurns(10 * a + b, 10 * h + n, 1), something > nothing ? 1 : 0);
        }
        IntUnaryOperator plan = rowPlan(r, x, m);
        for (int i = 0; i < 4; i++) {
            int seed = r.nextInt();
            int n = 1 + r.nextInt(30);
            int days = 1 + r.nextInt(30);
            int open = r.nextInt(13);
            int[] sums = m.drawn(plan, seed, n, days, open);
            int nmo = 10000 * n + 100 * days + open;
            DUE.is("drawn 0", x.drawn(0, seed, nmo, 0), sums[0]);
            DUE.is("drawn 1", x.drawn(0, seed, nmo, 1), sums[1]);
        }
    }

    private static void knocks(Random r, WinterShed x, Model m, boolean spoiled) {
        int n = r.nextInt(spoiled ? 61 : Math.min(8, 32 - m.now));
        long[] told = new long[n];
        for (int i = 0; i < n; i++) {
            told[i] = m.now + i <= 30 ? x.idle(m.now + i) : 0;
        }
        if (spoiled && n > 0 && r.nextBoolean()) {
            told[r.nextInt(n)]++;
        }
        Due.fill(x, 1, 1, told);
        DUE.is("judge", x.judge(1), m.judge(told));
        int[] much = m.howMuch(told);
        int[] fast = m.howFast(told);
        DUE.is("knock 0", x.knock(1, 0), much[0]);
        DUE.is("knock 1", x.knock(1, 1), much[1]);
        DUE.is("knock 2", x.knock(1, 2), fast[0]);
        DUE.is("knock 3", x.knock(1, 3), fast[1]);
    }

    private static void bores(Random r, WinterShed x, Model m) {
        for (int i = 0; i < 3; i++) {
            int day = i == 0 ? 30 : m.now + r.nextInt(31 - m.now);
            int[] bore = m.bore(day);
            DUE.is("bore 0", x.bore(day, 0), bore[0]);
            DUE.is("bore 1", x.bore(day, 1), bore[1]);
        }
    }
}
