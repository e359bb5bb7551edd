import java.util.ArrayList;
import java.util.List;
import java.util.TreeSet;
import java.util.function.IntUnaryOperator;

/** What the document says of a shed, worked out slowly and plainly from what of() and element() tell. */
final class Model {
    record Want(int number, int farm, int day, int hours, int gain) { }

    record Day(int day, int cold, int hours, boolean gave) { }

    final List<Integer> bees = new ArrayList<>();
    final List<Integer> voices = new ArrayList<>();
    final List<Want> wants = new ArrayList<>();
    int cold;
    int bears;
    int grows;
    int leak;
    int now;
    String law;

    /** A new shed. */
    Model() {
        cold = 40;
        bears = 200;
        grows = 1;
    }

    Model(WinterShed x, String law) {
        this.law = law;
        for (int f = 0; f < x.count(0); f++) {
            bees.add(x.of(f, 0));
            voices.add(x.of(f, 1));
        }
        for (int w = 0; w < x.count(1); w++) {
            wants.add(new Want(w, x.of(w, 10), x.of(w, 2), x.of(w, 3), x.of(w, 4)));
        }
        cold = x.of(0, 5);
        bears = x.of(0, 6);
        grows = x.of(0, 7);
        leak = x.of(0, 8);
        now = x.of(0, 9);
    }

    int overnight(int day, int c, int l) {
        int more = law == null ? (l == 0 ? grows : 0) - leak / 2
                : LawOracle.value(law, new int[] {c, l, grows, leak, day, bears});
        more = more > 99 ? 99 : more < -99 ? -99 : more;
        return Math.max(0, Math.min(999, c + more));
    }

    /** Days from NOW to 'last' (30: behind all) by hours asked. */
    List<Day> walk(int last, IntUnaryOperator asked) {
        List<Day> days = new ArrayList<>();
        int c = cold;
        for (int d = now; d <= last; d++) {
            boolean gave = d <= 29 && c > bears;
            if (gave) {
                c = 0;
            }
            int l = d > 29 ? 0 : Math.min(c, Math.min(24, Math.max(0, asked.applyAsInt(d))));
            days.add(new Day(d, c, l, gave));
            c = overnight(d, c - l, l);
        }
        return days;
    }

    int coldOn(int day, IntUnaryOperator asked) {
        return walk(30, asked).get(day - now).cold();
    }

    List<Want> met(int day, int l) {
        return wants.stream().filter(w -> w.day() == day && w.hours() <= l).toList();
    }

    int gain(int day, int l) {
        return met(day, l).stream().mapToInt(Want::gain).sum();
    }

    int harm(int farm, int day, int l) {
        return met(day, l).stream().anyMatch(w -> w.farm() == farm) ? 0 : bees.get(farm) * l;
    }

    int harmAll(int day, int l) {
        int sum = 0;
        for (int f = 0; f < bees.size(); f++) {
            sum += harm(f, day, l);
        }
        return sum;
    }

    int has(int farm, int day, int l) {
        return met(day, l).stream().filter(w -> w.farm() == farm).mapToInt(Want::gain).sum() - harm(farm, day, l);
    }

    int planSum(IntUnaryOperator asked, int day, int what) {
        int sum = 0;
        for (Day d : walk(day, asked)) {
            switch (what) {
                case 0 -> sum = d.hours();
                case 1 -> {
                    for (Want w : met(d.day(), d.hours())) {
                        sum |= 1 << w.number();
                    }
                }
                case 2 -> sum += gain(d.day(), d.hours());
                case 3 -> sum += harmAll(d.day(), d.hours());
                default -> sum += harm(what - 10, d.day(), d.hours());
            }
        }
        return sum;
    }

    int gives(IntUnaryOperator asked) {
        return walk(29, asked).stream().filter(Day::gave).mapToInt(Day::day).findFirst().orElse(-2);
    }

    int last(IntUnaryOperator asked) {
        return walk(30, asked).stream().filter(d -> d.cold() == 0).mapToInt(Day::day).findFirst().orElse(-2);
    }

    /** All ways of t days in rising order; what is most, then the hours. */
    int[] best(int t) {
        List<int[]> ways = new ArrayList<>();
        ways.add(new int[0]);
        for (int i = 0; i < t; i++) {
            int day = now + i;
            TreeSet<Integer> hours = new TreeSet<>();
            hours.add(0);
            wants.stream().filter(w -> w.day() == day && day <= 29).forEach(w -> hours.add(w.hours()));
            List<int[]> longer = new ArrayList<>();
            for (int[] way : ways) {
                for (int l : hours) {
                    int[] more = java.util.Arrays.copyOf(way, way.length + 1);
                    more[way.length] = l;
                    longer.add(more);
                }
            }
            ways = longer;
        }
        int[] best = null;
        for (int[] way : ways) {
            IntUnaryOperator asked = d -> d - now < way.length ? way[d - now] : 0;
            int value = planSum(asked, 29, 2) - planSum(asked, 29, 3);
            if (best == null || value > best[0]) {
                best = new int[t + 1];
                best[0] = value;
                System.arraycopy(way, 0, best, 1, t);
            }
        }
        return best;
    }

    int greatest(int day) {
        return wants.stream().filter(w -> w.day() == day).mapToInt(Want::hours).max().orElse(0);
    }

    int firstUnmet() {
        int met = planSum(this::greatest, 29, 1);
        return wants.stream().filter(w -> w.day() >= now && (met >> w.number() & 1) == 0)
                .mapToInt(Want::number).findFirst().orElse(-2);
    }

    int leastCold() {
        int was = cold;
        int least = -2;
        for (int c = 0; c <= 999 && least == -2; c++) {
            cold = c;
            if (c <= bears && firstUnmet() == -2 && gives(this::greatest) == -2) {
                least = c;
            }
        }
        cold = was;
        return least;
    }

    int voicesOf(int bits) {
        int sum = 0;
        for (int f = 0; f < voices.size(); f++) {
            sum += (bits >> f & 1) * voices.get(f);
        }
        return sum;
    }

    boolean carries(int bits) {
        return voicesOf(bits) > voicesOf(63) / 2.0;
    }

    int yes(int day, int l) {
        int bits = 0;
        for (int f = 0; f < bees.size(); f++) {
            bits |= has(f, day, l) > 0 ? 1 << f : 0;
        }
        return bits;
    }

    int swing(int day, int l) {
        int yes = yes(day, l);
        int bits = 0;
        for (int f = 0; f < bees.size(); f++) {
            bits |= carries(yes) != carries(yes ^ 1 << f) ? 1 << f : 0;
        }
        return bits;
    }

    int most(int day) {
        int most = -2;
        for (int l = 0; l <= 24; l++) {
            most = carries(yes(day, l)) ? l : most;
        }
        return most;
    }

    long[] power(int farm) {
        long ways = 0;
        long decided = 0;
        for (int bits = 0; bits < 1 << bees.size(); bits++) {
            if ((bits >> farm & 1) == 0) {
                ways++;
                decided += carries(bits) != carries(bits | 1 << farm) ? 1 : 0;
            }
        }
        for (long d = ways; d >= 1; d--) {
            if (ways % d == 0 && decided % d == 0) {
                return new long[] {decided / d, ways / d};
            }
        }
        return null;
    }

    int agenda(int day, int set) {
        int stands = 0;
        for (int l = 1; l <= 24; l++) {
            if ((set & 1 << l) != 0) {
                int bits = 0;
                for (int f = 0; f < bees.size(); f++) {
                    bits |= has(f, day, l) > has(f, day, stands) ? 1 << f : 0;
                }
                stands = carries(bits) ? l : stands;
            }
        }
        return stands;
    }

    int sold(int day, int p) {
        return Math.max(0, cold - wants.stream().filter(w -> w.day() == day && w.gain() / w.hours() >= p)
                .mapToInt(Want::hours).max().orElse(0));
    }

    int bestPrice(int day) {
        int best = 0;
        for (int p = 99; p >= 0; p--) {
            best = p * sold(day, p) >= best * sold(day, best) ? p : best;
        }
        return best;
    }

    int judge(long[] told) {
        List<Day> days = walk(30, d -> 0);
        for (int i = 0; i < told.length; i++) {
            if (i >= days.size() || days.get(i).cold() != told[i]) {
                return now + i;
            }
        }
        return -2;
    }

    /** How many and the least of COLDS. */
    int[] howMuch(long[] told) {
        int was = cold;
        int[] found = {0, -2};
        for (int c = 999; c >= 0; c--) {
            cold = c;
            if (judge(told) == -2) {
                found[0]++;
                found[1] = c;
            }
        }
        cold = was;
        return found;
    }

    int[] howFast(long[] told) {
        int wasG = grows;
        int wasK = leak;
        int[] found = {0, -2};
        for (grows = 9; grows >= 0; grows--) {
            for (leak = 9; leak >= 0; leak--) {
                if (judge(told) == -2) {
                    found[0]++;
                    found[1] = 10 * grows + leak;
                }
            }
        }
        grows = wasG;
        leak = wasK;
        return found;
    }

    int[] bore(int day) {
        int was = bears;
        int[] found = {0, -2};
        for (bears = 999; bears >= 1; bears--) {
            int gives = gives(d -> 0);
            if (gives == day || gives == -2 && day == 30) {
                found[0]++;
                found[1] = bears;
            }
        }
        bears = was;
        return found;
    }

    /** By all lines of play: 'done' is what was done so far. */
    int byTurns(int a, int b, int h, int n, List<Integer> done) {
        if (done.size() == n) {
            int sum = 0;
            for (Day d : walk(Math.min(29, now + n - 1), day -> done.get(day - now))) {
                sum += has(a, d.day(), d.hours()) - has(b, d.day(), d.hours());
            }
            return sum;
        }
        int[] values = new int[2];
        for (int pick = 0; pick < 2; pick++) {
            List<Integer> more = new ArrayList<>(done);
            more.add(pick * h);
            values[pick] = byTurns(a, b, h, n, more);
        }
        return done.size() % 2 == 0 ? Math.max(values[0], values[1]) : Math.min(values[0], values[1]);
    }

    int[] drawn(IntUnaryOperator plan, int seed, int n, int m, int open) {
        int[] z = {seed};
        int[] sums = new int[2];
        for (int s = 0; s < n; s++) {
            List<Day> days = walk(Math.min(29, now + m - 1), d -> {
                z[0] = z[0] * 1103515245 + 12345;
                return (z[0] >>> 8) % 12 < open ? 1 + (z[0] >>> 16) % 24 : plan.applyAsInt(d);
            });
            sums[0] += days.stream().mapToInt(d -> harmAll(d.day(), d.hours())).sum();
            sums[1] += days.stream().anyMatch(Day::gave) ? 1 : 0;
        }
        return sums;
    }
}
