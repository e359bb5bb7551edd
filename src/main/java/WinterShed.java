import java.util.Arrays;

/** A village that keeps its winter in a shed; ../shared/DOC.md says what each call answers. */
public final class WinterShed {
    public static final int BAD = -1, NOT = -2, FULL = -3, STATE = -5, VOID = -2000000000;

    private static final int MISSING = -11, OTHER_KIND = -12, NO_PLACE = -13, BELOW_NOTHING = -14;
    private static final int FINE = 1;

    private static final int FARMS = 6, WANTS = 12, SHELVES = 6, TAPE = 120, CELLS = 60;
    private static final int LAST_DAY = 29, END = 30, MOST_HOURS = 24, MOST_COLD = 999;
    private static final int MOST_BEARS = 999, MOST_PRICE = 99, MOST_TRIED = 4;

    /** What mend() can tell: the order of its parameter 'what'. */
    private static final int BEES = 0, VOICES = 1, DAY = 2, HOURS = 3, GAIN = 4;
    private static final int COLD = 5, BEARS = 6, GROWS = 7, LEAK = 8, NOW = 9, FARM_OF = 10;
    private static final int[] LEAST_VALUE = {0, 0, 0, 1, 0, 0, 1, 0, 0, 0};
    private static final int[] MOST_VALUE = {9, 9, 29, 24, 99, 999, 999, 9, 9, 29};

    /** What each new WANT gains, if nobody tells. */
    private static final int FIRST_GAIN = 10;

    private static final int BYTES = 0, SHORTS = 1, INTS = 2, LONGS = 3, BOOLEANS = 4;

    private final Village village = new Village();
    private final Shed shed = new Shed();
    private final Shed guess = new Shed();
    private final Thought thought = new Thought();
    private final Search search = new Search();
    private final int[] tape = new int[TAPE];
    private int taped = 0;
    private Law law = new Law();
    private Law spareLaw = new Law();
    private final Book book = new Book();
    private final Book imageBook = new Book();
    private final Shed imageShed = new Shed();
    private boolean hasImage = false;
    private final Changes changes = new Changes();
    private final Frosts frosts = new Frosts();
    private final Shelf[] shelves = new Shelf[SHELVES];

    public WinterShed() {
        for (int i = 0; i < SHELVES; i++) {
            shelves[i] = new Shelf();
        }
    }

    // ---- farms, wants

    public int farm(int bees) {
        if (!within(bees, LEAST_VALUE[BEES], MOST_VALUE[BEES])) {
            return BAD;
        }
        return village.addFarm(bees);
    }

    public int want(int farm, int dh) {
        if (dh < 0 || !village.mayWant(farm, dh / 100, dh % 100, FIRST_GAIN)) {
            return BAD;
        }
        return village.addWant(farm, dh / 100, dh % 100, FIRST_GAIN);
    }

    public int wants(int shelf, int i, int n) {
        Shelf from = shelfAt(shelf);
        if (from == null || !within(n, 1, WANTS)) {
            return BAD;
        }
        if (from.holds == Shelf.NOTHING) {
            return 0;
        }
        return from.isRowOf(BYTES) ? wantsFromRow(from, i, n) : OTHER_KIND;
    }

    public int mend(int number, int what, int v) {
        if (!isNumber(number, what) || what == FARM_OF
                || !within(v, LEAST_VALUE[what], MOST_VALUE[what])) {
            return BAD;
        }
        int was = valueOf(number, what);
        if (was != v) {
            setValue(number, what, v);
            changes.remember(number, what, was, v);
        }
        return was;
    }

    public int of(int number, int what) {
        return isNumber(number, what) ? valueOf(number, what) : BAD;
    }

    public int feed(int letter) {
        if (!within(letter, 0, 255)) {
            return BAD;
        }
        if (taped >= TAPE) {
            return FULL;
        }
        tape[taped] = letter;
        taped++;
        return taped;
    }

    public int law() {
        int fault = spareLaw.read(tape, taped);
        taped = 0;
        if (fault != Law.NO_FAULT) {
            return -100 - fault;
        }
        Law old = law;
        law = spareLaw;
        spareLaw = old;
        return FINE;
    }

    // ---- plans

    public int cold(int shelf, int day) {
        if (!within(day, shed.now, END)) {
            return BAD;
        }
        int refusal = thinkPlan(shelf);
        return refusal == FINE ? thought.colds[day] : refusal;
    }

    public int plan(int shelf, int day, int what) {
        boolean ofFarm = what >= 10 && village.hasFarm(what - 10);
        if (!within(day, shed.now, LAST_DAY) || !(within(what, 0, 3) || ofFarm)) {
            return BAD;
        }
        int refusal = thinkPlan(shelf);
        if (refusal != FINE) {
            return refusal;
        }
        if (what == 0) {
            return thought.hours[day];
        }
        return what == 1 ? metTo(day) : sumTo(day, what);
    }

    public int gives(int shelf, int what) {
        if (!within(what, 0, 1)) {
            return BAD;
        }
        int refusal = thinkPlan(shelf);
        if (refusal != FINE) {
            return refusal;
        }
        return what == 0 ? thought.gives : firstWithoutCold();
    }

    public int idle(int day) {
        if (!within(day, shed.now, END)) {
            return BAD;
        }
        thought.askNothing();
        thought.walk(shed, law);
        return thought.colds[day];
    }

    public int best(int t, int k) {
        if (!within(t, 1, MOST_TRIED) || !within(k, -1, t - 1)) {
            return VOID;
        }
        search.begin(t);
        tryDay(0, shed.cold, 0);
        return k == -1 ? search.most : search.chosen[k];
    }

    public int all(int what) {
        if (!within(what, 0, 1)) {
            return BAD;
        }
        thought.askGreatest(village);
        return what == 0 ? firstUnmet() : leastCold();
    }

    // ---- votes

    public int vote(int dl, int what) {
        if (dl < 0 || dl / 100 > LAST_DAY || dl % 100 > MOST_HOURS || !within(what, 0, 2)) {
            return BAD;
        }
        int yes = village.sayYes(dl / 100, dl % 100);
        if (what == 0) {
            return yes;
        }
        return what == 2 ? village.swing(yes) : village.carries(yes) ? 1 : 0;
    }

    public int most(int day) {
        if (!within(day, 0, LAST_DAY)) {
            return BAD;
        }
        for (int l = MOST_HOURS; l >= 0; l--) {
            if (village.carries(village.sayYes(day, l))) {
                return l;
            }
        }
        return NOT;
    }

    public long power(int farm, int part) {
        if (!village.hasFarm(farm) || !within(part, 0, 1)) {
            return Long.MIN_VALUE;
        }
        int ways = 1 << (village.farms - 1);
        int decided = village.decides(farm);
        int common = commonDivisor(ways, decided);
        return (part == 0 ? decided : ways) / common;
    }

    public int agenda(int day, int set) {
        if (!within(day, 0, LAST_DAY) || (set & ~0x1FFFFFE) != 0) {
            return BAD;
        }
        int stands = 0;
        for (int l = 1; l <= MOST_HOURS; l++) {
            if ((set >> l & 1) == 1 && village.carries(village.prefer(day, l, stands))) {
                stands = l;
            }
        }
        return stands;
    }

    public int price(int day, int p) {
        if (!within(day, 0, LAST_DAY) || !within(p, -1, MOST_PRICE)) {
            return BAD;
        }
        return p == -1 ? bestPrice(day) : sold(day, p);
    }

    // ---- knocking

    public int judge(int shelf) {
        int refusal = refuseRow(shelf, SHORTS);
        return refusal == FINE ? firstUnlike(shelves[shelf], shed) : refusal;
    }

    public int knock(int shelf, int what) {
        if (!within(what, 0, 3)) {
            return BAD;
        }
        int refusal = refuseRow(shelf, SHORTS);
        if (refusal != FINE) {
            return refusal;
        }
        boolean least = what % 2 == 1;
        return what < 2 ? howMuch(shelves[shelf], least) : howFast(shelves[shelf], least);
    }

    public int bore(int day, int what) {
        if (!within(day, shed.now, END) || !within(what, 0, 1)) {
            return BAD;
        }
        guess.takeFrom(shed);
        int ways = 0;
        for (int bears = 1; bears <= MOST_BEARS; bears++) {
            guess.bears = bears;
            if (givesFirstOn(day)) {
                if (what == 1) {
                    return bears;
                }
                ways++;
            }
        }
        return what == 0 ? ways : NOT;
    }

    public int byTurns(int ab, int hn, int what) {
        if (ab < 0 || hn < 0 || !within(what, 0, 1)) {
            return VOID;
        }
        int a = ab / 10;
        int b = ab % 10;
        int h = hn / 10;
        int n = hn % 10;
        if (!village.hasFarm(a) || !village.hasFarm(b) || a == b
                || !within(h, 1, MOST_HOURS) || !within(n, 1, 5)) {
            return VOID;
        }
        search.beginTurns(a, b, h, n);
        int atDawn = shed.atDawn(shed.now, shed.cold);
        int nothing = afterTurn(0, atDawn, 0);
        int something = afterTurn(0, atDawn, h);
        if (what == 0) {
            return Math.max(nothing, something);
        }
        return something > nothing ? 1 : 0;
    }

    public int drawn(int shelf, int seed, int nmo, int what) {
        int n = nmo / 10000;
        int m = nmo / 100 % 100;
        int open = nmo % 100;
        if (nmo < 0 || !within(n, 1, 30) || !within(m, 1, 30) || !within(open, 0, 12)
                || !within(what, 0, 1) || refuseRow(shelf, BYTES) != FINE) {
            return VOID;
        }
        thought.askRow(shelves[shelf], shed.now);
        thought.beginDraws(seed, open);
        int last = Math.min(LAST_DAY, shed.now + m - 1);
        for (int summer = 0; summer < n; summer++) {
            drawSummer(last);
        }
        return what == 0 ? thought.harm : thought.summersGiven;
    }

    // ---- in deed

    public int pass(int l) {
        if (!within(l, 0, MOST_HOURS)) {
            return BAD;
        }
        if (shed.now >= LAST_DAY) {
            return STATE;
        }
        int there = shed.atDawn(shed.now, shed.cold);
        if (l > there) {
            return NOT;
        }
        if (shed.givesAt(shed.now, shed.cold)) {
            book.gave++;
        }
        book.days++;
        book.hours += l;
        book.gain += village.gain(shed.now, l);
        book.harm += village.harmOfAll(shed.now, l);
        shed.cold = law.overnight(shed, shed.now, there - l, l);
        shed.now++;
        return shed.cold;
    }

    public int bring(int hours) {
        if (!within(hours, 1, 99)) {
            return BAD;
        }
        shed.cold = Math.min(shed.cold + hours, MOST_COLD);
        return shed.cold;
    }

    public int boards() {
        shed.bears = Math.min(shed.bears + 10, MOST_BEARS);
        return shed.bears;
    }

    public int led(int what) {
        switch (what) {
            case 0: return book.days;
            case 1: return book.hours;
            case 2: return book.gain;
            case 3: return book.harm;
            case 4: return book.gave;
            default: return BAD;
        }
    }

    public int image() {
        imageShed.takeFrom(shed);
        imageBook.takeFrom(book);
        hasImage = true;
        return shed.now;
    }

    public int back() {
        if (!hasImage) {
            return STATE;
        }
        // GROWS and LEAK are no part of the image: only CHANGES make them what they are.
        shed.cold = imageShed.cold;
        shed.bears = imageShed.bears;
        shed.now = imageShed.now;
        book.takeFrom(imageBook);
        return shed.now;
    }

    public int undo() {
        int at = changes.stepBack();
        if (at < 0) {
            return STATE;
        }
        setValue(changes.numbers[at], changes.whats[at], changes.before[at]);
        return changes.done;
    }

    public int redo() {
        int at = changes.stepOn();
        if (at < 0) {
            return STATE;
        }
        setValue(changes.numbers[at], changes.whats[at], changes.after[at]);
        return changes.undone;
    }

    // ---- acts, shelves

    public int body(int kind) {
        if (!within(kind, 0, Frosts.KINDS - 1)) {
            return BAD;
        }
        return frosts.addBody(kind);
    }

    public int act(int body, int act, int x) {
        return frosts.begin(body, act, x);
    }

    public int trace(int i) {
        return i >= 0 && i < frosts.kept() ? frosts.trace[i] : BAD;
    }

    public int keep(int shelf, int body) {
        Shelf to = shelfAt(shelf);
        if (to == null || !(body == -1 || frosts.hasBody(body))) {
            return BAD;
        }
        to.holds = body == -1 ? Shelf.NOTHING : Shelf.FROST;
        to.frost = body;
        return FINE;
    }

    public int row(int shelf, int sort, int n) {
        Shelf to = shelfAt(shelf);
        if (to == null || !within(sort, BYTES, BOOLEANS) || n > CELLS) {
            return BAD;
        }
        if (n < 0) {
            return BELOW_NOTHING;
        }
        to.becomeRow(sort, n);
        return FINE;
    }

    public int put(int shelf, int i, long v) {
        int refusal = refusePlace(shelf, i);
        if (refusal == FINE) {
            shelves[shelf].cells[i] = lowestBits(shelves[shelf].sort, v);
        }
        return refusal;
    }

    public long element(int shelf, int i) {
        return refusePlace(shelf, i) == FINE ? shelves[shelf].cells[i] : Long.MIN_VALUE;
    }

    public int shift(int shelf, int i, int other, int j, int n) {
        Shelf from = shelfAt(shelf);
        Shelf to = shelfAt(other);
        if (from == null || to == null) {
            return BAD;
        }
        if (from.holds == Shelf.NOTHING || to.holds == Shelf.NOTHING) {
            return MISSING;
        }
        if (from.holds != Shelf.ROW || !to.isRowOf(from.sort)) {
            return OTHER_KIND;
        }
        if (!from.hasPlaces(i, n) || !to.hasPlaces(j, n)) {
            return NO_PLACE;
        }
        System.arraycopy(from.cells, i, to.cells, j, n);
        return n;
    }

    public int taken(int shelf, int k) {
        Shelf from = shelfAt(shelf);
        if (from == null || !within(k, 0, Frosts.KINDS - 1)) {
            return BAD;
        }
        if (from.holds == Shelf.NOTHING) {
            return MISSING;
        }
        if (from.holds != Shelf.FROST || !frosts.isUnder(from.frost, k)) {
            return OTHER_KIND;
        }
        return frosts.kindOf(from.frost);
    }

    public int count(int what) {
        switch (what) {
            case 0: return village.farms;
            case 1: return village.wants;
            case 2: return taped;
            case 3: return changes.done;
            case 4: return frosts.bodies;
            case 5: return frosts.ran;
            default: return BAD;
        }
    }

    // ---- numbers that mend() tells

    private static boolean within(int v, int least, int most) {
        return v >= least && v <= most;
    }

    private boolean isNumber(int number, int what) {
        if (what == BEES || what == VOICES) {
            return village.hasFarm(number);
        }
        if (within(what, DAY, GAIN) || what == FARM_OF) {
            return village.hasWant(number);
        }
        return within(what, COLD, NOW) && number == 0;
    }

    /** Only behind isNumber(). */
    private int valueOf(int number, int what) {
        switch (what) {
            case BEES: return village.bees[number];
            case VOICES: return village.voices[number];
            case DAY: return village.dayOf[number];
            case HOURS: return village.hoursOf[number];
            case GAIN: return village.gainOf[number];
            case COLD: return shed.cold;
            case BEARS: return shed.bears;
            case GROWS: return shed.grows;
            case LEAK: return shed.leak;
            case NOW: return shed.now;
            case FARM_OF: return village.farmOf[number];
            default: return BAD;
        }
    }

    /** Only behind isNumber(); FARMS and WANTS never go, so what was one stays one for undo(). */
    private void setValue(int number, int what, int v) {
        switch (what) {
            case BEES: village.bees[number] = v; break;
            case VOICES: village.voices[number] = v; break;
            case DAY: village.dayOf[number] = v; break;
            case HOURS: village.hoursOf[number] = v; break;
            case GAIN: village.gainOf[number] = v; break;
            case COLD: shed.cold = v; break;
            case BEARS: shed.bears = v; break;
            case GROWS: shed.grows = v; break;
            case LEAK: shed.leak = v; break;
            case NOW: shed.now = v; break;
            default: break;
        }
    }

    private int wantsFromRow(Shelf from, int i, int n) {
        int came = 0;
        for (int w = 0; w < n; w++) {
            int at = i + 4 * w;
            if (!from.hasPlaces(at, 4)) {
                return came;
            }
            int farm = (int) from.cells[at];
            int day = (int) from.cells[at + 1];
            int hours = (int) from.cells[at + 2];
            int gain = (int) from.cells[at + 3];
            if (!village.mayWant(farm, day, hours, gain)
                    || village.addWant(farm, day, hours, gain) == FULL) {
                return came;
            }
            came++;
        }
        return came;
    }

    // ---- plans, in thought

    /** FINE, with the PLAN walked through in 'thought'; else why not. */
    private int thinkPlan(int shelf) {
        int refusal = refuseRow(shelf, BYTES);
        if (refusal == FINE) {
            thought.askRow(shelves[shelf], shed.now);
            thought.walk(shed, law);
        }
        return refusal;
    }

    private int metTo(int day) {
        int met = 0;
        for (int d = shed.now; d <= day; d++) {
            met |= village.met(d, thought.hours[d]);
        }
        return met;
    }

    /** GAIN (what 2), HARM of all (3), HARM of a FARM (10 and its number). */
    private int sumTo(int day, int what) {
        int sum = 0;
        for (int d = shed.now; d <= day; d++) {
            int l = thought.hours[d];
            if (what == 2) {
                sum += village.gain(d, l);
            } else if (what == 3) {
                sum += village.harmOfAll(d, l);
            } else {
                sum += village.harm(what - 10, d, l);
            }
        }
        return sum;
    }

    /** LAST; the time behind all days counts, as cold() tells it too. */
    private int firstWithoutCold() {
        for (int d = shed.now; d <= END; d++) {
            if (thought.colds[d] == 0) {
                return d;
            }
        }
        return NOT;
    }

    /** Hours are tried from the least up, so of like ones the least is found first and stays. */
    private void tryDay(int depth, int coldBefore, int sum) {
        if (depth >= search.days) {
            search.offer(sum);
            return;
        }
        int day = shed.now + depth;
        int there = shed.atDawn(day, coldBefore);
        for (int l = 0; l <= MOST_HOURS; l++) {
            if (l == 0 || day <= LAST_DAY && village.wantsExactly(day, l)) {
                int out = Math.min(l, there);
                int more = village.gain(day, out) - village.harmOfAll(day, out);
                search.tried[depth] = l;
                tryDay(depth + 1, law.overnight(shed, day, there - out, out), sum + more);
            }
        }
    }

    private int firstUnmet() {
        thought.walk(shed, law);
        for (int w = 0; w < village.wants; w++) {
            int day = village.dayOf[w];
            if (day >= shed.now && village.hoursOf[w] > thought.hours[day]) {
                return w;
            }
        }
        return NOT;
    }

    private int leastCold() {
        for (int c = 0; c <= MOST_COLD; c++) {
            if (meetsAllFrom(c)) {
                return c;
            }
        }
        return NOT;
    }

    /** Whether all that 'thought' asks is there, and the BOARDS never GIVE. */
    private boolean meetsAllFrom(int coldNow) {
        int c = coldNow;
        for (int d = shed.now; d <= LAST_DAY; d++) {
            int l = thought.asked[d];
            if (shed.givesAt(d, c) || l > c) {
                return false;
            }
            c = law.overnight(shed, d, c - l, l);
        }
        return true;
    }

    // ---- votes and prices

    private static int commonDivisor(int a, int b) {
        int large = a;
        int small = b;
        // Each two rounds halve the numbers, and they are 32 at most: 64 rounds are plenty.
        for (int i = 0; i < 64 && small != 0; i++) {
            int rest = large % small;
            large = small;
            small = rest;
        }
        return large == 0 ? 1 : large;
    }

    private int sold(int day, int p) {
        return Math.max(0, shed.cold - village.greatestWorth(day, p));
    }

    private int bestPrice(int day) {
        int bestP = 0;
        int most = 0;
        for (int p = 1; p <= MOST_PRICE; p++) {
            int earned = p * sold(day, p);
            if (earned > most) {
                most = earned;
                bestP = p;
            }
        }
        return bestP;
    }

    // ---- knocking

    /** The first day on which COLD is not as told, if a shed like s stays closed; NOT. */
    private int firstUnlike(Shelf told, Shed s) {
        int c = s.cold;
        for (int i = 0; i < told.length; i++) {
            int day = s.now + i;
            if (day > END) {
                return day;
            }
            c = s.atDawn(day, c);
            if (told.cells[i] != c) {
                return day;
            }
            c = law.overnight(s, day, c, 0);
        }
        return NOT;
    }

    private int howMuch(Shelf told, boolean least) {
        guess.takeFrom(shed);
        int ways = 0;
        for (int c = 0; c <= MOST_COLD; c++) {
            guess.cold = c;
            if (firstUnlike(told, guess) == NOT) {
                if (least) {
                    return c;
                }
                ways++;
            }
        }
        return least ? NOT : ways;
    }

    private int howFast(Shelf told, boolean least) {
        guess.takeFrom(shed);
        int ways = 0;
        for (int both = 0; both < 100; both++) {
            guess.grows = both / 10;
            guess.leak = both % 10;
            if (firstUnlike(told, guess) == NOT) {
                if (least) {
                    return both;
                }
                ways++;
            }
        }
        return least ? NOT : ways;
    }

    /** Whether the BOARDS of 'guess', left closed, GIVE first on that day (END: never). */
    private boolean givesFirstOn(int day) {
        int c = guess.cold;
        for (int d = guess.now; d <= LAST_DAY && d <= day; d++) {
            if (guess.givesAt(d, c)) {
                return d == day;
            }
            c = law.overnight(guess, d, c, 0);
        }
        return day == END;
    }

    // ---- games by turns

    /** What the first one has more than the other, from this turn on, if l hours are let out in it. */
    private int afterTurn(int turn, int there, int l) {
        int day = shed.now + turn;
        int out = Math.min(l, there);
        int lead = village.share(search.first, day, out) - village.share(search.second, day, out);
        int next = turn + 1;
        int nextDay = day + 1;
        if (next >= search.turns || nextDay > LAST_DAY) {
            return lead;
        }
        int nextThere = shed.atDawn(nextDay, law.overnight(shed, day, there - out, out));
        int nothing = afterTurn(next, nextThere, 0);
        int something = afterTurn(next, nextThere, search.hours);
        boolean firstMoves = next % 2 == 0;
        return lead + (firstMoves ? Math.max(nothing, something) : Math.min(nothing, something));
    }

    // ---- summers by draws

    private void drawSummer(int last) {
        int c = shed.cold;
        boolean gave = false;
        for (int d = shed.now; d <= last; d++) {
            gave |= shed.givesAt(d, c);
            c = shed.atDawn(d, c);
            int l = Math.min(thought.drawHours(d), c);
            thought.harm += village.harmOfAll(d, l);
            c = law.overnight(shed, d, c - l, l);
        }
        if (gave) {
            thought.summersGiven++;
        }
    }

    // ---- shelves

    private Shelf shelfAt(int shelf) {
        return within(shelf, 0, SHELVES - 1) ? shelves[shelf] : null;
    }

    /** FINE, if the SHELF holds a ROW of that sort. */
    private int refuseRow(int shelf, int sort) {
        Shelf from = shelfAt(shelf);
        if (from == null) {
            return BAD;
        }
        if (from.holds == Shelf.NOTHING) {
            return MISSING;
        }
        return from.isRowOf(sort) ? FINE : OTHER_KIND;
    }

    /** FINE, if the SHELF holds a ROW of any sort that has that place. */
    private int refusePlace(int shelf, int i) {
        Shelf from = shelfAt(shelf);
        if (from == null) {
            return BAD;
        }
        if (from.holds == Shelf.NOTHING) {
            return MISSING;
        }
        if (from.holds != Shelf.ROW) {
            return OTHER_KIND;
        }
        return from.hasPlaces(i, 1) ? FINE : NO_PLACE;
    }

    private static long lowestBits(int sort, long v) {
        switch (sort) {
            case BYTES: return (byte) v;
            case SHORTS: return (short) v;
            case INTS: return (int) v;
            case LONGS: return v;
            default: return v != 0 ? 1 : 0;
        }
    }

    /** Numbers of the shed, as they are or as they are guessed. */
    private static final class Shed {
        int cold = 40;
        int bears = 200;
        int grows = 1;
        int leak = 0;
        int now = 0;

        void takeFrom(Shed other) {
            cold = other.cold;
            bears = other.bears;
            grows = other.grows;
            leak = other.leak;
            now = other.now;
        }

        boolean givesAt(int day, int c) {
            return day <= LAST_DAY && c > bears;
        }

        int atDawn(int day, int c) {
            return givesAt(day, c) ? 0 : c;
        }
    }

    /** FARMS and WANTS, and what a FROST does to them. */
    private static final class Village {
        int farms = 0;
        final int[] bees = new int[FARMS];
        final int[] voices = new int[FARMS];
        int wants = 0;
        final int[] farmOf = new int[WANTS];
        final int[] dayOf = new int[WANTS];
        final int[] hoursOf = new int[WANTS];
        final int[] gainOf = new int[WANTS];

        boolean hasFarm(int f) {
            return f >= 0 && f < farms;
        }

        boolean hasWant(int w) {
            return w >= 0 && w < wants;
        }

        int addFarm(int harmAnHour) {
            if (farms >= FARMS) {
                return FULL;
            }
            bees[farms] = harmAnHour;
            voices[farms] = 1;
            farms++;
            return farms - 1;
        }

        boolean mayWant(int farm, int day, int hours, int gain) {
            return hasFarm(farm) && within(day, LEAST_VALUE[DAY], MOST_VALUE[DAY])
                    && within(hours, LEAST_VALUE[HOURS], MOST_VALUE[HOURS])
                    && within(gain, LEAST_VALUE[GAIN], MOST_VALUE[GAIN]);
        }

        int addWant(int farm, int day, int hours, int gain) {
            if (wants >= WANTS) {
                return FULL;
            }
            farmOf[wants] = farm;
            dayOf[wants] = day;
            hoursOf[wants] = hours;
            gainOf[wants] = gain;
            wants++;
            return wants - 1;
        }

        private boolean isMet(int w, int day, int l) {
            return dayOf[w] == day && hoursOf[w] <= l;
        }

        int met(int day, int l) {
            int bits = 0;
            for (int w = 0; w < wants; w++) {
                if (isMet(w, day, l)) {
                    bits |= 1 << w;
                }
            }
            return bits;
        }

        int gain(int day, int l) {
            int sum = 0;
            for (int w = 0; w < wants; w++) {
                if (isMet(w, day, l)) {
                    sum += gainOf[w];
                }
            }
            return sum;
        }

        int harm(int farm, int day, int l) {
            for (int w = 0; w < wants; w++) {
                if (farmOf[w] == farm && isMet(w, day, l)) {
                    return 0;
                }
            }
            return bees[farm] * l;
        }

        int harmOfAll(int day, int l) {
            int sum = 0;
            for (int f = 0; f < farms; f++) {
                sum += harm(f, day, l);
            }
            return sum;
        }

        /** What a FARM has of l hours: GAIN of its own WANTS MET, less its own HARM. */
        int share(int farm, int day, int l) {
            int sum = -harm(farm, day, l);
            for (int w = 0; w < wants; w++) {
                if (farmOf[w] == farm && isMet(w, day, l)) {
                    sum += gainOf[w];
                }
            }
            return sum;
        }

        boolean wantsExactly(int day, int l) {
            for (int w = 0; w < wants; w++) {
                if (dayOf[w] == day && hoursOf[w] == l) {
                    return true;
                }
            }
            return false;
        }

        /** HOURS of the greatest WANT of a DAY; 0 without one. */
        int greatest(int day) {
            int most = 0;
            for (int w = 0; w < wants; w++) {
                if (dayOf[w] == day) {
                    most = Math.max(most, hoursOf[w]);
                }
            }
            return most;
        }

        /** HOURS of the greatest WANT of a DAY that gains p or more an hour; 0 without one. */
        int greatestWorth(int day, int p) {
            int most = 0;
            for (int w = 0; w < wants; w++) {
                if (dayOf[w] == day && hoursOf[w] > 0 && gainOf[w] / hoursOf[w] >= p) {
                    most = Math.max(most, hoursOf[w]);
                }
            }
            return most;
        }

        private int voicesOf(int bits) {
            int sum = 0;
            for (int f = 0; f < farms; f++) {
                if ((bits >> f & 1) == 1) {
                    sum += voices[f];
                }
            }
            return sum;
        }

        boolean carries(int yes) {
            return 2 * voicesOf(yes) > voicesOf(-1);
        }

        int sayYes(int day, int l) {
            int bits = 0;
            for (int f = 0; f < farms; f++) {
                if (share(f, day, l) > 0) {
                    bits |= 1 << f;
                }
            }
            return bits;
        }

        /** Which FARMS have more of l hours than of what stands. */
        int prefer(int day, int l, int stands) {
            int bits = 0;
            for (int f = 0; f < farms; f++) {
                if (share(f, day, l) > share(f, day, stands)) {
                    bits |= 1 << f;
                }
            }
            return bits;
        }

        int swing(int yes) {
            int bits = 0;
            for (int f = 0; f < farms; f++) {
                if (carries(yes ^ 1 << f) != carries(yes)) {
                    bits |= 1 << f;
                }
            }
            return bits;
        }

        /** In how many of the ways of the others a FARM decides. */
        int decides(int farm) {
            int own = 1 << farm;
            int ways = 0;
            for (int yes = 0; yes < 1 << farms; yes++) {
                if ((yes & own) == 0 && carries(yes | own) && !carries(yes)) {
                    ways++;
                }
            }
            return ways;
        }
    }

    /** Days walked through without doing them. */
    private static final class Thought {
        final int[] asked = new int[END];
        final int[] colds = new int[END + 1];
        final int[] hours = new int[END];
        int gives = NOT;
        int harm = 0;
        int summersGiven = 0;
        private int z = 0;
        private int open = 0;

        void askNothing() {
            Arrays.fill(asked, 0);
        }

        void askRow(Shelf plan, int now) {
            askNothing();
            for (int i = 0; i < plan.length && now + i <= LAST_DAY; i++) {
                int told = (int) plan.cells[i];
                asked[now + i] = Math.max(0, Math.min(told, MOST_HOURS));
            }
        }

        void askGreatest(Village village) {
            for (int day = 0; day <= LAST_DAY; day++) {
                asked[day] = village.greatest(day);
            }
        }

        /** Fills colds, hours and gives from NOW on by what is asked. */
        void walk(Shed shed, Law law) {
            gives = NOT;
            int c = shed.cold;
            for (int day = shed.now; day <= LAST_DAY; day++) {
                if (gives == NOT && shed.givesAt(day, c)) {
                    gives = day;
                }
                c = shed.atDawn(day, c);
                int l = Math.min(asked[day], c);
                colds[day] = c;
                hours[day] = l;
                c = law.overnight(shed, day, c - l, l);
            }
            colds[END] = c;
        }

        void beginDraws(int seed, int openOfTwelve) {
            z = seed;
            open = openOfTwelve;
            harm = 0;
            summersGiven = 0;
        }

        /** Hours that a day wants: by the door left open, or as asked. */
        int drawHours(int day) {
            z = z * 1103515245 + 12345;
            return (z >>> 8) % 12 < open ? 1 + (z >>> 16) % 24 : asked[day];
        }
    }

    /** What a search through days to come knows: for best() and byTurns(). */
    private static final class Search {
        int days = 0;
        int most = 0;
        final int[] tried = new int[MOST_TRIED];
        final int[] chosen = new int[MOST_TRIED];
        private boolean found = false;
        int first = 0;
        int second = 0;
        int hours = 0;
        int turns = 0;

        void begin(int t) {
            days = t;
            found = false;
        }

        void offer(int sum) {
            if (!found || sum > most) {
                found = true;
                most = sum;
                System.arraycopy(tried, 0, chosen, 0, MOST_TRIED);
            }
        }

        void beginTurns(int a, int b, int h, int n) {
            first = a;
            second = b;
            hours = h;
            turns = n;
        }
    }

    /** What LED tells. */
    private static final class Book {
        int days = 0;
        int hours = 0;
        int gain = 0;
        int harm = 0;
        int gave = 0;

        void takeFrom(Book other) {
            days = other.days;
            hours = other.hours;
            gain = other.gain;
            harm = other.harm;
            gave = other.gave;
        }
    }

    /** CHANGES that can be UNDONE (0 .. done - 1), and behind them those that can be DONE AGAIN. */
    private static final class Changes {
        private static final int MOST_KEPT = 40;
        final int[] numbers = new int[MOST_KEPT];
        final int[] whats = new int[MOST_KEPT];
        final int[] before = new int[MOST_KEPT];
        final int[] after = new int[MOST_KEPT];
        int done = 0;
        int undone = 0;

        void remember(int number, int what, int was, int is) {
            if (done >= MOST_KEPT) {
                forgetOldest();
            }
            numbers[done] = number;
            whats[done] = what;
            before[done] = was;
            after[done] = is;
            done++;
            undone = 0;
        }

        private void forgetOldest() {
            done = MOST_KEPT - 1;
            System.arraycopy(numbers, 1, numbers, 0, done);
            System.arraycopy(whats, 1, whats, 0, done);
            System.arraycopy(before, 1, before, 0, done);
            System.arraycopy(after, 1, after, 0, done);
        }

        /** The place of the change to be UNDONE; -1: none. */
        int stepBack() {
            if (done <= 0) {
                return -1;
            }
            done--;
            undone++;
            return done;
        }

        /** The place of the change to be DONE AGAIN; -1: none. */
        int stepOn() {
            if (undone <= 0 || done >= MOST_KEPT) {
                return -1;
            }
            undone--;
            done++;
            return done - 1;
        }
    }

    /** What stands on a SHELF. */
    private static final class Shelf {
        private static final int NOTHING = 0, FROST = 1, ROW = 2;
        int holds = NOTHING;
        int frost = -1;
        int sort = BYTES;
        int length = 0;
        final long[] cells = new long[CELLS];

        void becomeRow(int newSort, int n) {
            holds = ROW;
            frost = -1;
            sort = newSort;
            length = n;
            Arrays.fill(cells, 0L);
        }

        boolean isRowOf(int wanted) {
            return holds == ROW && sort == wanted;
        }

        /** Whether a ROW has n places from i on; written so that no sum can wrap. */
        boolean hasPlaces(int i, int n) {
            return i >= 0 && n >= 0 && n <= length && i <= length - n;
        }
    }

    /** THE LAW: its TEXT read into steps that work on a stack; each step is named by a letter. */
    private static final class Law {
        private static final int NO_FAULT = -1;
        private static final int MOST_OPEN = 6, MOST_DIGITS = 4;
        private static final int NO_LETTER = -1;
        /** A step for each letter at most, and one that ends the last LINE. */
        private static final int STEPS = TAPE + 1;
        private static final char NUMBER = 'n', NAME = 'v', NEGATIVE = '~', INVERSE = '!';
        private static final char CONDITION = '?', LINE_END = ';';
        private static final String NAMES = "clgkdb";
        private static final int OPERAND = 5, COMPARING = 2;

        private final int[] steps = new int[STEPS];
        private final int[] details = new int[STEPS];
        private int size = 0;
        private final int[] stack = new int[STEPS];
        private int top = 0;
        private final int[] named = new int[6];
        private int[] text = null;
        private int length = 0;
        private int at = 0;

        /** COLD as the next day begins, if this one ends with c and l hours were let out. */
        int overnight(Shed shed, int day, int c, int l) {
            int more;
            if (size == 0) {
                more = (l == 0 ? shed.grows : 0) - shed.leak / 2;
            } else {
                tellNames(shed, day, c, l);
                more = workOut();
            }
            int held = Math.max(-99, Math.min(more, 99));
            return Math.max(0, Math.min(c + held, MOST_COLD));
        }

        /** In the order of NAMES. */
        private void tellNames(Shed shed, int day, int c, int l) {
            named[0] = c;
            named[1] = l;
            named[2] = shed.grows;
            named[3] = shed.leak;
            named[4] = day;
            named[5] = shed.bears;
        }

        private int workOut() {
            boolean counts = true;
            top = 0;
            for (int i = 0; i < size; i++) {
                int step = steps[i];
                if (step == CONDITION) {
                    counts = pop() != 0;
                } else if (step == LINE_END) {
                    int value = pop();
                    if (counts) {
                        return value;
                    }
                    counts = true;
                } else {
                    workStep(step, details[i]);
                }
            }
            return 0;
        }

        private void workStep(int step, int detail) {
            if (step == NUMBER) {
                push(detail);
            } else if (step == NAME) {
                push(detail >= 0 && detail < named.length ? named[detail] : 0);
            } else if (step == NEGATIVE) {
                push(-pop());
            } else if (step == INVERSE) {
                push(pop() == 0 ? 1 : 0);
            } else {
                int right = pop();
                int left = pop();
                push(joined(step, left, right));
            }
        }

        private static int joined(int step, int left, int right) {
            switch (step) {
                case '|': return left != 0 || right != 0 ? 1 : 0;
                case '&': return left != 0 && right != 0 ? 1 : 0;
                case '<': return left < right ? 1 : 0;
                case '=': return left == right ? 1 : 0;
                case '>': return left > right ? 1 : 0;
                case '+': return left + right;
                case '-': return left - right;
                case '*': return left * right;
                case '/': return right == 0 ? 0 : left / right;
                case '%': return right == 0 ? 0 : left % right;
                default: return 0;
            }
        }

        private void push(int v) {
            if (top < stack.length) {
                stack[top] = v;
                top++;
            }
        }

        private int pop() {
            if (top <= 0) {
                return 0;
            }
            top--;
            return stack[top];
        }

        /** Reads a TEXT: NO_FAULT, or the place of its FAULT (what is read so far is no law then). */
        int read(int[] letters, int n) {
            text = letters;
            length = Math.max(0, Math.min(n, letters.length));
            at = 0;
            size = 0;
            return readText() ? NO_FAULT : at;
        }

        private boolean readText() {
            for (int line = 0; line < TAPE; line++) {
                if (!readLine()) {
                    return false;
                }
                if (at >= length) {
                    return true;
                }
                if (!skip(';')) {
                    return false;
                }
            }
            return false;
        }

        private boolean readLine() {
            if (!readLevel(0, 0)) {
                return false;
            }
            if (skip('?')) {
                addStep(CONDITION, 0);
                if (!readLevel(0, 0)) {
                    return false;
                }
            }
            addStep(LINE_END, 0);
            return true;
        }

        /** E, A, B, S and P are levels 0 to 4; 'open' counts the ( ! - that are open. */
        private boolean readLevel(int level, int open) {
            if (level >= OPERAND) {
                return readOperand(open);
            }
            if (!readLevel(level + 1, open)) {
                return false;
            }
            for (int i = 0; i < TAPE && joins(level, letter()); i++) {
                int sign = letter();
                at++;
                if (!readLevel(level + 1, open)) {
                    return false;
                }
                addStep(sign, 0);
                if (level == COMPARING) {
                    return true;
                }
            }
            return true;
        }

        private static boolean joins(int level, int letter) {
            switch (level) {
                case 0: return letter == '|';
                case 1: return letter == '&';
                case 2: return letter == '<' || letter == '=' || letter == '>';
                case 3: return letter == '+' || letter == '-';
                case 4: return letter == '*' || letter == '/' || letter == '%';
                default: return false;
            }
        }

        private boolean readOperand(int open) {
            int letter = letter();
            if (isDigit(letter)) {
                readNumber();
                return true;
            }
            int name = letter < 0 ? -1 : NAMES.indexOf((char) letter);
            if (name >= 0) {
                at++;
                addStep(NAME, name);
                return true;
            }
            if (open >= MOST_OPEN) {
                return false;
            }
            if (skip('(')) {
                return readLevel(0, open + 1) && skip(')');
            }
            if (!skip('!') && !skip('-')) {
                return false;
            }
            if (!readOperand(open + 1)) {
                return false;
            }
            addStep(letter == '!' ? INVERSE : NEGATIVE, 0);
            return true;
        }

        private void readNumber() {
            int value = 0;
            for (int i = 0; i < MOST_DIGITS && isDigit(letter()); i++) {
                value = value * 10 + letter() - '0';
                at++;
            }
            addStep(NUMBER, value);
        }

        private static boolean isDigit(int letter) {
            return letter >= '0' && letter <= '9';
        }

        private int letter() {
            return text != null && at >= 0 && at < length ? text[at] : NO_LETTER;
        }

        private boolean skip(char wanted) {
            if (letter() != wanted) {
                return false;
            }
            at++;
            return true;
        }

        private void addStep(int step, int detail) {
            if (size < steps.length) {
                steps[size] = step;
                details[size] = detail;
                size++;
            }
        }
    }

    /** BODIES, and ACTS whose bodies come from KINDS above. */
    private static final class Frosts {
        private static final int KINDS = 8, ACTS = 4, MOST_BODIES = 50, MOST_TRACED = 24;
        private static final int LETS = 0, GROWS = 1, LEAKS = 2, TELLS = 3;
        /** Far above what the bodies of acts can need. */
        private static final int MOST_DEPTH = 40;
        private static final int[] ABOVE = {-1, 0, 0, 2, 1, 3, 0, 4};
        /** By KIND, then ACT: the number of the KIND's own body; 0: none (LETS and TELLS are FROST's). */
        private static final int[] OWN_BODY = {
            1, 10, 11, 2,
            20, 0, 0, 0,
            0, 30, 0, 0,
            0, 41, 40, 0,
            0, 0, 50, 0,
            0, 0, 0, 60,
            70, 0, 0, 0,
            0, 80, 0, 81,
        };

        int bodies = 0;
        private final int[] kinds = new int[MOST_BODIES];
        final int[] trace = new int[MOST_TRACED];
        int ran = 0;
        private int self = 0;

        boolean hasBody(int body) {
            return body >= 0 && body < bodies;
        }

        int addBody(int kind) {
            if (bodies >= MOST_BODIES) {
                return FULL;
            }
            kinds[bodies] = kind;
            bodies++;
            return bodies - 1;
        }

        int kindOf(int body) {
            return hasBody(body) ? kinds[body] : -1;
        }

        boolean isUnder(int body, int wanted) {
            int kind = kindOf(body);
            for (int i = 0; i < KINDS && kind >= 0; i++) {
                if (kind == wanted) {
                    return true;
                }
                kind = ABOVE[kind];
            }
            return false;
        }

        int kept() {
            return Math.min(ran, MOST_TRACED);
        }

        int begin(int body, int act, int x) {
            ran = 0;
            if (!hasBody(body) || act < 0 || act >= ACTS) {
                return 0;
            }
            self = body;
            return own(act, x, 0);
        }

        private int own(int act, int x, int depth) {
            return from(kindOf(self), act, x, depth);
        }

        private int above(int kind, int act, int x, int depth) {
            return kind >= 0 && kind < KINDS ? from(ABOVE[kind], act, x, depth) : 0;
        }

        /** Runs the body of an ACT that this KIND has, or the next KIND above. */
        private int from(int lowest, int act, int x, int depth) {
            int kind = lowest;
            for (int i = 0; i < KINDS && kind >= 0; i++) {
                int number = OWN_BODY[kind * ACTS + act];
                if (number != 0) {
                    return depth < MOST_DEPTH ? perform(number, kind, x, depth + 1) : 0;
                }
                kind = ABOVE[kind];
            }
            return 0;
        }

        private int perform(int number, int kind, int x, int depth) {
            leaveTrace(number);
            switch (number) {
                case 1: return x + self;
                case 2: return own(GROWS, x, depth) - own(LEAKS, 1, depth);
                case 10: return own(LETS, x, depth) * 2;
                case 11: return x ^ self;
                case 20: return above(kind, LETS, x, depth) + 3;
                case 30: return -above(kind, GROWS, x, depth);
                case 40: return above(kind, LEAKS, x, depth) * 3;
                case 41: return above(kind, GROWS, x + 1, depth);
                case 50: return above(kind, LEAKS, x, depth) - own(LETS, 2, depth);
                case 60: return above(kind, TELLS, x, depth) ^ 5;
                case 70: return above(kind, LETS, x, depth) * 2;
                case 80: return above(kind, GROWS, x, depth) + own(LEAKS, 2, depth);
                case 81: return above(kind, TELLS, x, depth) - 1;
                default: return 0;
            }
        }

        private void leaveTrace(int number) {
            if (ran < MOST_TRACED) {
                trace[ran] = number;
            }
            ran++;
        }
    }
}
