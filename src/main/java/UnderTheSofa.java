import java.util.Arrays;
import java.util.NoSuchElementException;

/** A round thing sweeps a flat, strikes, turns and goes on; the document says what each call promises. */
public final class UnderTheSofa {
    public static final int NONE = -1;

    private static final int NOT_SO = -2;
    private static final int MISSING = -3;
    private static final int ALL_WALL = -100;
    private static final int NO_SUCH_COUNT = -100;

    private static final int SIDE = 6;
    private static final int MOST_SPOTS = SIDE * SIDE;
    private static final int HEADINGS = 4;
    private static final int MOST_DUST = 99;
    private static final int MOST_STEPS = 200;
    private static final int FAR = 999;
    private static final int MOST_CURRENT = 999;
    private static final int MOST_DAYS = 30;
    private static final int RUN_SIGNS = 60;
    private static final int KEPT = 3;
    private static final int WEEK = 7;
    private static final int MOST_BOX = 999;
    private static final int MOST_DUSTY = 20;
    private static final int MINUTES = 10;

    /** Instead of a turn that is always the same. */
    private static final int BY_RULE = NONE;

    private final Text text;
    private final Row row;
    private final RuleReader reader;
    private final History history;
    private final Ways ways;
    private final Heard heard;
    private final Sweep sweep;
    private final State now;
    private final State before;
    private final State trip;
    private final State[] kept;
    private final int[] sums;
    private final int[] visits;
    private final long[] chances;
    private final long[] nextChances;
    private Plan plan;
    private Plan draftPlan;
    private Rule rule;
    private Rule draftRule;
    private int keptNumbers;

    public UnderTheSofa() {
        text = new Text();
        row = new Row();
        reader = new RuleReader();
        history = new History();
        ways = new Ways();
        heard = new Heard();
        sweep = new Sweep();
        now = new State();
        before = new State();
        trip = new State();
        kept = new State[KEPT];
        for (int i = 0; i < KEPT; i++) {
            kept[i] = new State();
        }
        sums = new int[MOST_BOX + 1];
        visits = new int[MOST_SPOTS];
        chances = new long[MOST_SPOTS];
        nextChances = new long[MOST_SPOTS];
        plan = new Plan();
        draftPlan = new Plan();
        rule = new Rule();
        draftRule = new Rule();
        keptNumbers = 0;
    }

    // ---- the flat

    public int sign(int v) {
        return text.addFour(v) ? text.size() : NONE;
    }

    public boolean end(int n) {
        return text.cut(n);
    }

    public int flat() {
        int wrong = draftPlan.read(text);
        text.cut(0);
        if (wrong != NONE) {
            return -1 - wrong;
        }
        if (draftPlan.open == 0L) {
            return ALL_WALL;
        }
        Plan old = plan;
        plan = draftPlan;
        draftPlan = old;
        now.begin(plan.start());
        heard.clear();
        history.clear();
        keptNumbers = 0;
        return Long.bitCount(plan.open);
    }

    public int rule() {
        int wrong = reader.read(text, draftRule);
        text.cut(0);
        if (wrong != NONE) {
            return -1 - wrong;
        }
        Rule old = rule;
        rule = draftRule;
        draftRule = old;
        return 0;
    }

    public int spot(int spot, int what) throws NoSuchElementException {
        if (!plan.has(spot)) {
            throw new NoSuchElementException("no such spot");
        }
        switch (what) {
            case 0:
                return plan.kindOf(spot);
            case 1:
                return oneIf(holds(now.chairs, spot));
            case 2:
                return now.dustAt(spot);
            case 3:
                return oneIf(spot == plan.plug);
            case 4:
                return oneIf(spot == now.spot);
            case 5:
                return oneIf(holds(free(), spot));
            default:
                throw new NoSuchElementException("no such thing of a spot");
        }
    }

    public int machine(int what) throws NoSuchElementException {
        switch (what) {
            case 0:
                return now.spot;
            case 1:
                return now.heading;
            case 2:
                return now.current;
            case 3:
                return now.box;
            case 4:
                return now.steps;
            case 5:
                return now.bumps;
            case 6:
                return rule.turnOf(now, plan);
            case 7:
                return plan.aheadOf(now.spot, now.heading);
            default:
                throw new NoSuchElementException("no such thing of the machine");
        }
    }

    public int sheet(int kind, int n, int f, int step) {
        if (kind < 0 || kind > 3 || n > MOST_SPOTS) {
            return NONE;
        }
        if (kind == 3) {
            now.clearDust();
            return MISSING;
        }
        if (n < 0) {
            return NOT_SO;
        }
        for (int spot = 0; spot < MOST_SPOTS; spot++) {
            boolean told = spot < n && holds(plan.open, spot);
            now.putDust(spot, told ? entryOf(kind, f + spot * step) : 0);
        }
        return now.dustOfAll();
    }

    private static int entryOf(int kind, int v) {
        if (kind == 0) {
            return (byte) v;
        }
        return kind == 1 ? (short) v : v;
    }

    // ---- steps, days

    public int steps(int n) {
        before.copyFrom(now);
        return remembered(takeSteps(n));
    }

    public int turn(int n) {
        before.copyFrom(now);
        return remembered(turnRight(n));
    }

    public int days(int n) {
        before.copyFrom(now);
        return remembered(passDays(n));
    }

    public int chair(int spot) {
        before.copyFrom(now);
        return remembered(moveChair(spot));
    }

    public int carry(int spot, int heading) {
        if (!plan.has(spot) || heading < 0 || heading >= HEADINGS) {
            return NONE;
        }
        if (!holds(free(), spot)) {
            return NOT_SO;
        }
        before.copyFrom(now);
        int was = now.spot;
        now.spot = spot;
        now.heading = heading;
        return remembered(was);
    }

    public int load(int n) {
        before.copyFrom(now);
        return remembered(loadUp(n));
    }

    public int run() {
        int wrong = wrongSignOfRun();
        if (wrong != NONE) {
            text.cut(0);
            return -1 - wrong;
        }
        before.copyFrom(now);
        int at = 0;
        int done = 0;
        boolean refused = false;
        for (int i = 0; i < RUN_SIGNS && at < text.size() && !refused; i++) {
            refused = !actOfRun(at);
            done += refused ? 0 : 1;
            at += 1 + digitsBehind(text.at(at));
        }
        text.cut(0);
        if (done > 0) {
            history.push(before);
        }
        row.begin();
        row.add(oneIf(refused));
        row.add(now.box);
        return done;
    }

    public int undo() {
        return history.pop(now) ? history.size() : NONE;
    }

    /** Answers below 0 mean that nothing was done, so that there is nothing to undo. */
    private int remembered(int answer) {
        if (answer >= 0) {
            history.push(before);
        }
        return answer;
    }

    private int takeSteps(int n) {
        if (n < 0 || n > MOST_STEPS) {
            return NONE;
        }
        int boxAhead = now.box;
        int bumpsAhead = now.bumps;
        int done = 0;
        for (int i = 0; i < n && goOn(now, true, BY_RULE); i++) {
            done++;
        }
        row.begin();
        row.add(now.box - boxAhead);
        row.add(now.bumps - bumpsAhead);
        return done;
    }

    private int turnRight(int n) {
        if (n < 0 || n >= HEADINGS) {
            return NONE;
        }
        now.turnBy(n);
        return now.heading;
    }

    private int passDays(int n) {
        if (n < 1 || n > MOST_DAYS) {
            return NONE;
        }
        for (int i = 0; i < n; i++) {
            now.dayFalls(plan);
        }
        return now.dustOfAll();
    }

    private int moveChair(int spot) {
        if (!plan.has(spot)) {
            return NONE;
        }
        if (!holds(plan.open, spot) || spot == now.spot) {
            return NOT_SO;
        }
        now.chairs ^= bit(spot);
        return Long.bitCount(now.chairs);
    }

    private int loadUp(int n) {
        if (n < 1 || n > MOST_CURRENT) {
            return NONE;
        }
        if (now.spot != plan.plug) {
            return NOT_SO;
        }
        int was = now.box;
        now.current = n;
        now.box = 0;
        return was;
    }

    /** All signs are looked at ahead of the first act, as a wrong text does nothing. */
    private int wrongSignOfRun() {
        int limit = Math.min(text.size(), RUN_SIGNS);
        int act = NONE;
        int digits = 0;
        for (int p = 0; p < limit; p++) {
            int sign = text.at(p);
            if (digits == 0) {
                act = sign;
                digits = digitsBehind(sign);
                if (digits == 0) {
                    return p;
                }
            } else if (canStandBehind(act, sign)) {
                digits--;
            } else {
                return p;
            }
        }
        return digits > 0 || text.size() > RUN_SIGNS ? limit : NONE;
    }

    private static int digitsBehind(int act) {
        switch (act) {
            case 's':
            case 't':
            case 'd':
                return 1;
            case 'c':
            case 'l':
                return 2;
            default:
                return 0;
        }
    }

    private static boolean canStandBehind(int act, int sign) {
        if (act == 't') {
            return sign >= '0' && sign <= '3';
        }
        return sign >= (act == 'd' ? '1' : '0') && sign <= '9';
    }

    private boolean actOfRun(int at) {
        int first = text.at(at + 1) - '0';
        int both = first * 10 + text.at(at + 2) - '0';
        switch (text.at(at)) {
            case 's':
                return takeSteps(first) > 0 || first == 0;
            case 't':
                return turnRight(first) >= 0;
            case 'd':
                return passDays(first) >= 0;
            case 'c':
                return moveChair(both) >= 0;
            case 'l':
                return loadUp(both * 10) >= 0;
            default:
                return false;
        }
    }

    /** A STEP; false if the machine is out. */
    private boolean goOn(State m, boolean costs, int fixedTurn) {
        int cost = costs ? plan.costFrom(m.spot) : 0;
        if (m.current < cost) {
            return false;
        }
        m.current -= cost;
        m.steps++;
        int ahead = plan.aheadOf(m.spot, m.heading);
        if (holds(plan.open & ~m.chairs, ahead)) {
            m.enter(ahead);
        } else {
            m.strike(fixedTurn == BY_RULE ? rule.turnOf(m, plan) : fixedTurn);
        }
        return true;
    }

    // ---- as it goes on

    public int been(int n) {
        if (n < 0 || n > MOST_STEPS) {
            return NONE;
        }
        trip.copyFrom(now);
        long seen = bit(trip.spot);
        for (int i = 0; i < n && goOn(trip, true, BY_RULE); i++) {
            seen |= bit(trip.spot);
        }
        row.begin();
        row.add(seen);
        row.add(trip.spot);
        row.add(trip.current);
        return Long.bitCount(seen);
    }

    public int all() {
        long reach = plan.reach(free(), now.spot);
        int needed = stepsToSee(reach, BY_RULE);
        if (needed > FAR) {
            return NOT_SO;
        }
        row.begin();
        row.add(Long.bitCount(reach));
        return needed;
    }

    public int never() {
        long unseen = plan.reach(free(), now.spot) & ~bit(now.spot);
        trip.copyFrom(now);
        for (int i = 0; i < FAR && unseen != 0L && goOn(trip, false, BY_RULE); i++) {
            unseen &= ~bit(trip.spot);
        }
        row.begin();
        row.add(unseen);
        return Long.bitCount(unseen);
    }

    public int angle() {
        long reach = plan.reach(free(), now.spot);
        int first = stepsToSee(reach, 1);
        int second = stepsToSee(reach, 2);
        int third = stepsToSee(reach, 3);
        int least = Math.min(first, Math.min(second, third));
        row.begin();
        row.add(least);
        row.add(first);
        row.add(second);
        row.add(third);
        if (first == least) {
            return 1;
        }
        return second == least ? 2 : 3;
    }

    public int meets() {
        if (plan.plug == NONE) {
            return NOT_SO;
        }
        int needed = stepsToSee(bit(plan.plug), BY_RULE);
        return needed > FAR ? NOT_SO : needed;
    }

    public int round() {
        trip.copyFrom(now);
        for (int done = 1; done <= FAR && goOn(trip, false, BY_RULE); done++) {
            if (trip.spot == now.spot && trip.heading == now.heading) {
                row.begin();
                row.add(trip.bumps - now.bumps);
                return done;
            }
        }
        return NOT_SO;
    }

    public int corner(int n) {
        if (n < 1 || n > FAR) {
            return NONE;
        }
        Arrays.fill(visits, 0);
        trip.copyFrom(now);
        for (int i = 0; i < n && goOn(trip, false, BY_RULE); i++) {
            if (trip.spot >= 0 && trip.spot < MOST_SPOTS) {
                visits[trip.spot]++;
            }
        }
        int most = 0;
        for (int spot = 1; spot < MOST_SPOTS; spot++) {
            if (visits[spot] > visits[most]) {
                most = spot;
            }
        }
        row.begin();
        row.add(visits[most]);
        return most;
    }

    /** How many STEPS, current left aside, till it has been on all that are wanted; FAR + 1 if that is too far. */
    private int stepsToSee(long wanted, int fixedTurn) {
        trip.copyFrom(now);
        long unseen = wanted & ~bit(trip.spot);
        int done = 0;
        for (; done < FAR && unseen != 0L; done++) {
            goOn(trip, false, fixedTurn);
            unseen &= ~bit(trip.spot);
        }
        return unseen == 0L ? done : FAR + 1;
    }

    // ---- ways

    public int way(int from, int to) {
        if (!plan.has(from) || !plan.has(to)) {
            return NONE;
        }
        long free = free();
        if (!holds(free, from) || !holds(free, to)) {
            return NOT_SO;
        }
        ways.measure(plan, free, to);
        int cost = ways.costFrom(from);
        if (cost == Ways.NO_WAY) {
            return NOT_SO;
        }
        row.begin();
        row.add(from);
        int spot = from;
        int left = cost;
        for (int i = 0; i < MOST_SPOTS && spot != to; i++) {
            left -= plan.costFrom(spot);
            spot = ways.firstAt(left, plan.around(bit(spot)));
            row.add(spot);
        }
        return cost;
    }

    public int back() {
        if (plan.plug == NONE) {
            return NOT_SO;
        }
        ways.measure(plan, free(), plan.plug);
        int most = NOT_SO;
        trip.copyFrom(now);
        for (int done = 0; done <= MOST_STEPS; done++) {
            int home = ways.costFrom(trip.spot);
            if (home != Ways.NO_WAY && trip.current >= home) {
                most = done;
            }
            if (!goOn(trip, true, BY_RULE)) {
                break;
            }
        }
        return most;
    }

    public int plug() {
        long free = free();
        int best = NONE;
        int least = Ways.NO_WAY + 1;
        for (int spot = 0; spot < MOST_SPOTS; spot++) {
            if (!holds(free, spot)) {
                continue;
            }
            ways.measure(plan, free, spot);
            int greatest = ways.greatest(free);
            if (greatest < least) {
                least = greatest;
                best = spot;
            }
        }
        row.begin();
        row.add(least);
        return best;
    }

    public int doors() {
        long free = free();
        if (!holds(plan.reach(free, now.spot), plan.plug)) {
            return NOT_SO;
        }
        long others = free & ~bit(now.spot) & ~bit(plan.plug);
        long doors = 0L;
        for (int spot = 0; spot < MOST_SPOTS; spot++) {
            if (holds(others, spot) && !holds(plan.reach(free & ~bit(spot), now.spot), plan.plug)) {
                doors |= bit(spot);
            }
        }
        row.begin();
        row.add(doors);
        return Long.bitCount(doors);
    }

    public int chairs() {
        if (now.chairs == 0L) {
            return NOT_SO;
        }
        long free = free();
        int reached = Long.bitCount(plan.reach(free, now.spot));
        int best = NONE;
        int most = NONE;
        for (int spot = 0; spot < MOST_SPOTS; spot++) {
            if (!holds(now.chairs, spot)) {
                continue;
            }
            int more = Long.bitCount(plan.reach(free | bit(spot), now.spot)) - reached;
            if (more > most) {
                most = more;
                best = spot;
            }
        }
        row.begin();
        row.add(most);
        return best;
    }

    public int best(int n) {
        if (n < 0 || n > Sweep.MOST) {
            return NONE;
        }
        sweep.seek(plan, now, n);
        row.begin();
        for (int i = 0; i < sweep.fewest; i++) {
            row.add(sweep.foundAt(i));
        }
        return sweep.mostDust;
    }

    // ---- where it is

    public int felt(int is) {
        if (is != 0 && is != 1) {
            return NONE;
        }
        return heardOf(is == 1 ? Heard.STRUCK : Heard.WENT);
    }

    public int swung(int n) {
        if (n < 1 || n >= HEADINGS) {
            return NONE;
        }
        return heardOf(n);
    }

    public int forget() {
        int things = heard.size();
        heard.clear();
        return things;
    }

    public int held() {
        heard.find(plan, free());
        row.begin();
        row.add(heard.spots());
        row.add(heard.places());
        return Long.bitCount(heard.spots());
    }

    public int feel() {
        long free = free();
        heard.find(plan, free);
        int places = heard.places();
        if (places == 0) {
            return NOT_SO;
        }
        int best = 0;
        int least = places + 1;
        for (int quarters = 0; quarters < HEADINGS; quarters++) {
            int strikes = heard.strikes(plan, free, quarters);
            int most = Math.max(strikes, places - strikes);
            if (most < least) {
                least = most;
                best = quarters;
            }
        }
        row.begin();
        row.add(least);
        return best;
    }

    private int heardOf(int thing) {
        if (!heard.add(thing)) {
            return NONE;
        }
        heard.find(plan, free());
        return heard.places();
    }

    // ---- chance, days, the map, the box, lots

    public int likely(int n, int spot) {
        if (n < 0 || n > 10 || !plan.has(spot)) {
            return NONE;
        }
        Arrays.fill(chances, 0L);
        if (now.spot >= 0 && now.spot < MOST_SPOTS) {
            chances[now.spot] = 1L;
        }
        long lower = 1L;
        for (int i = 0; i < n; i++) {
            stray();
            lower *= HEADINGS;
        }
        tellFraction(chances[spot], lower);
        return 0;
    }

    public int week(int k, int v) {
        if (k < 0 || k > WEEK || v < 1 || v > 9) {
            return NONE;
        }
        int bestDays = NONE;
        int least = 0;
        for (int days = 0; days < 1 << WEEK; days++) {
            if (Integer.bitCount(days) != k) {
                continue;
            }
            int lies = dustOfWeek(days, v);
            if (bestDays == NONE || lies < least) {
                least = lies;
                bestDays = days;
            }
        }
        row.begin();
        row.add(bestDays);
        return least;
    }

    public int looks() {
        int turns = 0;
        for (int quarters = 1; quarters < HEADINGS; quarters++) {
            if (plan.looksTurned(quarters)) {
                turns |= 1 << quarters;
            }
        }
        row.begin();
        row.add(Integer.bitCount(turns));
        row.add(oneIf(plan.looksMirrored()));
        return turns;
    }

    public int box(int v) {
        if (v < 0 || v > MOST_BOX) {
            return NONE;
        }
        long dusty = now.dusty();
        if (Long.bitCount(dusty) > MOST_DUSTY) {
            return NOT_SO;
        }
        countSums(dusty, v);
        long always = 0L;
        for (int spot = 0; spot < MOST_SPOTS && sums[v] > 0; spot++) {
            if (holds(dusty, spot) && sumsWithout(now.dustAt(spot), v) == 0) {
                always |= bit(spot);
            }
        }
        row.begin();
        row.add(always);
        return sums[v];
    }

    public int clean(int k) {
        int spots = Long.bitCount(plan.open);
        if (k < 1 || k > spots) {
            return NONE;
        }
        tellFraction(choices(spots - Long.bitCount(now.dusty()), k), choices(spots, k));
        return 0;
    }

    public int rests(int v) {
        if (v < 1 || v > 99) {
            return NONE;
        }
        int pairs = 0;
        row.begin();
        for (int x = 0; x < MINUTES; x++) {
            for (int y = 0; y < MINUTES; y++) {
                if (!staysWith(x, y, v) || !staysWith(y, x, v)) {
                    continue;
                }
                if (pairs == 0) {
                    row.add(x);
                    row.add(y);
                }
                pairs++;
            }
        }
        return pairs;
    }

    private void stray() {
        long free = free();
        Arrays.fill(nextChances, 0L);
        for (int from = 0; from < MOST_SPOTS; from++) {
            if (chances[from] == 0L) {
                continue;
            }
            for (int heading = 0; heading < HEADINGS; heading++) {
                int to = plan.aheadOf(from, heading);
                int then = holds(free, to) && to < MOST_SPOTS ? to : from;
                nextChances[then] += chances[from];
            }
        }
        System.arraycopy(nextChances, 0, chances, 0, MOST_SPOTS);
    }

    private static int dustOfWeek(int days, int v) {
        int lies = 0;
        int counted = 0;
        for (int day = 0; day < WEEK; day++) {
            lies = (days >> day & 1) == 1 ? 0 : lies + v;
            counted += lies;
        }
        return counted;
    }

    /** In how many ways each number up to v is the sum of some dusty SPOTS' dust. */
    private void countSums(long dusty, int v) {
        Arrays.fill(sums, 0);
        sums[0] = 1;
        for (int spot = 0; spot < MOST_SPOTS; spot++) {
            if (!holds(dusty, spot)) {
                continue;
            }
            int dust = now.dustAt(spot);
            for (int sum = Math.min(v, MOST_BOX); sum >= dust && dust > 0; sum--) {
                sums[sum] += sums[sum - dust];
            }
        }
    }

    /** Ways to v without one SPOT: each way with it stands for one to v - dust without it, and so on down. */
    private int sumsWithout(int dust, int v) {
        int without = 0;
        int sign = 1;
        for (int sum = v; sum >= 0 && sum <= MOST_BOX && dust > 0; sum -= dust) {
            without += sign * sums[sum];
            sign = -sign;
        }
        return without;
    }

    private static long choices(int n, int k) {
        if (k > n) {
            return 0L;
        }
        long sets = 1L;
        for (int i = 0; i < k; i++) {
            sets = sets * (n - i) / (i + 1);
        }
        return sets;
    }

    private static boolean staysWith(int own, int other, int v) {
        int has = rested(own, other, v);
        for (int another = 0; another < MINUTES; another++) {
            if (rested(another, other, v) > has) {
                return false;
            }
        }
        return true;
    }

    private static int rested(int own, int other, int v) {
        if (own < other) {
            return v - own;
        }
        return own > other ? -own : -own - 5;
    }

    private void tellFraction(long upper, long lower) {
        long divisor = upper;
        long rest = lower;
        for (int i = 0; i < 200 && rest != 0L; i++) {
            long next = divisor % rest;
            divisor = rest;
            rest = next;
        }
        long by = divisor > 0L ? divisor : 1L;
        row.begin();
        row.add(upper / by);
        row.add(lower / by);
    }

    // ---- weeks

    public int weeks(int seed, int n) {
        if (n < 1 || n > 60) {
            return NONE;
        }
        trip.copyFrom(now);
        int r = seed;
        for (int i = 0; i < n; i++) {
            r = nextDraw(r);
            int told = drawn(r, 8);
            if (told == 7) {
                trip.dayFalls(plan);
            } else if (told == 6) {
                trip.turnBy(1);
            } else {
                goOn(trip, false, BY_RULE);
                if (holds(plan.rugs, trip.spot)) {
                    r = nextDraw(r);
                    trip.turnBy(oneIf(drawn(r, 4) == 0));
                }
            }
        }
        row.begin();
        row.add(trip.spot);
        row.add(trip.dustOfAll());
        return trip.box - now.box;
    }

    private static int nextDraw(int r) {
        return r * 1103515245 + 12345;
    }

    private static int drawn(int r, int n) {
        return n > 0 ? (r >>> 16) % n : 0;
    }

    // ---- kept

    public boolean keep(int i) {
        if (i < 0 || i >= KEPT) {
            return false;
        }
        State place = kept[i];
        if (place == null) {
            return false;
        }
        place.copyFrom(now);
        keptNumbers |= 1 << i;
        return true;
    }

    public boolean again(int i) {
        if (i < 0 || i >= KEPT || (keptNumbers >> i & 1) == 0) {
            return false;
        }
        now.copyFrom(kept[i]);
        history.clear();
        return true;
    }

    public int count(int what) {
        switch (what) {
            case 0:
                return plan.rows;
            case 1:
                return plan.columns;
            case 2:
                return Long.bitCount(plan.open);
            case 3:
                return Long.bitCount(now.chairs);
            case 4:
                return now.dustOfAll();
            case 5:
                return plan.plug;
            case 6:
                return now.day;
            case 7:
                return heard.size();
            case 8:
                return history.size();
            case 9:
                return row.size();
            case 10:
                return text.size();
            default:
                return NO_SUCH_COUNT;
        }
    }

    public long row(int i) throws NoSuchElementException {
        if (i < 0 || i >= row.size()) {
            throw new NoSuchElementException("no such number");
        }
        return row.at(i);
    }

    // ---- what all of these use

    private long free() {
        return plan.open & ~now.chairs;
    }

    private static int oneIf(boolean is) {
        return is ? 1 : 0;
    }

    private static long bit(int spot) {
        return spot >= 0 && spot < MOST_SPOTS ? 1L << spot : 0L;
    }

    private static boolean holds(long set, int spot) {
        return spot >= 0 && spot < MOST_SPOTS && (set >>> spot & 1L) != 0L;
    }

    /** THE TEXT. */
    private static final class Text {
        private static final int MOST = 80;
        private final int[] signs = new int[MOST];
        private int length = 0;

        int size() {
            return length;
        }

        /** NONE behind the end: no sign is that, so that nothing can stand there. */
        int at(int i) {
            return i >= 0 && i < length && i < MOST ? signs[i] : NONE;
        }

        boolean addFour(int v) {
            if (length < 0 || length + 4 > MOST) {
                return false;
            }
            for (int i = 0; i < 4; i++) {
                signs[length + i] = v >>> 24 - 8 * i & 255;
            }
            length += 4;
            return true;
        }

        boolean cut(int n) {
            if (n < 0 || n > length) {
                return false;
            }
            length = n;
            return true;
        }
    }

    /** The ROW. */
    private static final class Row {
        private static final int MOST = MOST_SPOTS + 1;
        private final long[] numbers = new long[MOST];
        private int length = 0;

        int size() {
            return length;
        }

        void begin() {
            length = 0;
        }

        void add(long number) {
            if (length >= 0 && length < MOST) {
                numbers[length] = number;
                length++;
            }
        }

        long at(int i) {
            return i >= 0 && i < length && i < MOST ? numbers[i] : 0L;
        }
    }

    /** THE FLAT without its chairs and dust. */
    private static final class Plan {
        private static final int WALL = 0;
        private static final int BARE = 1;
        private static final int RUG = 2;

        private final int[] kinds = new int[MOST_SPOTS];
        private int rows = 1;
        private int columns = 1;
        private int plug = NONE;
        private long open = 1L;
        private long rugs = 0L;
        private long leftEdge = 1L;
        private long rightEdge = 1L;

        Plan() {
            kinds[0] = BARE;
        }

        /** Where the sign is that can't stand, NONE if all can. */
        int read(Text text) {
            int r = 0;
            int c = 0;
            plug = NONE;
            columns = SIDE;
            for (int p = 0; p < text.size(); p++) {
                int sign = text.at(p);
                if (sign == '/') {
                    if (!isWhole(r, c) || r == SIDE - 1) {
                        return p;
                    }
                    columns = c;
                    r++;
                    c = 0;
                } else {
                    int spot = r * columns + c;
                    if (c >= columns || !put(sign, spot)) {
                        return p;
                    }
                    c++;
                }
            }
            if (!isWhole(r, c)) {
                return text.size();
            }
            columns = c;
            rows = r + 1;
            drawSets();
            return NONE;
        }

        private boolean isWhole(int r, int c) {
            return r == 0 ? c > 0 : c == columns;
        }

        private boolean put(int sign, int spot) {
            int kind = kindBy(sign);
            boolean isPlug = sign == 'p' || sign == 'q';
            if (kind == NONE || spot < 0 || spot >= MOST_SPOTS || isPlug && plug != NONE) {
                return false;
            }
            kinds[spot] = kind;
            plug = isPlug ? spot : plug;
            return true;
        }

        private static int kindBy(int sign) {
            switch (sign) {
                case '#':
                    return WALL;
                case '.':
                case 'p':
                    return BARE;
                case 'r':
                case 'q':
                    return RUG;
                default:
                    return NONE;
            }
        }

        private void drawSets() {
            open = 0L;
            rugs = 0L;
            for (int spot = 0; spot < rows * columns; spot++) {
                int kind = kindOf(spot);
                open |= kind == WALL ? 0L : bit(spot);
                rugs |= kind == RUG ? bit(spot) : 0L;
            }
            leftEdge = 0L;
            for (int r = 0; r < rows; r++) {
                leftEdge |= bit(r * columns);
            }
            rightEdge = leftEdge << columns - 1;
        }

        boolean has(int spot) {
            return spot >= 0 && spot < rows * columns;
        }

        int kindOf(int spot) {
            return spot >= 0 && spot < MOST_SPOTS ? kinds[spot] : WALL;
        }

        int start() {
            if (plug != NONE) {
                return plug;
            }
            return firstOf(open);
        }

        static int firstOf(long set) {
            for (int spot = 0; spot < MOST_SPOTS; spot++) {
                if (holds(set, spot)) {
                    return spot;
                }
            }
            return NONE;
        }

        int costFrom(int spot) {
            return holds(rugs, spot) ? 2 : 1;
        }

        int aheadOf(int spot, int heading) {
            if (!has(spot)) {
                return NONE;
            }
            switch (heading) {
                case 0:
                    return spot >= columns ? spot - columns : NONE;
                case 1:
                    return holds(rightEdge, spot) ? NONE : spot + 1;
                case 2:
                    return has(spot + columns) ? spot + columns : NONE;
                case 3:
                    return holds(leftEdge, spot) ? NONE : spot - 1;
                default:
                    return NONE;
            }
        }

        /** The set gone on by one SPOT each; what leaves the flat downwards is for the caller to leave out. */
        long moved(long set, int heading) {
            switch (heading) {
                case 0:
                    return set >>> columns;
                case 1:
                    return (set & ~rightEdge) << 1;
                case 2:
                    return set << columns;
                default:
                    return (set & ~leftEdge) >>> 1;
            }
        }

        long around(long set) {
            return moved(set, 0) | moved(set, 1) | moved(set, 2) | moved(set, 3);
        }

        long reach(long free, int from) {
            long reached = bit(from);
            long edge = reached;
            for (int i = 0; i < MOST_SPOTS && edge != 0L; i++) {
                edge = around(edge) & free & ~reached;
                reached |= edge;
            }
            return reached;
        }

        boolean looksTurned(int quarters) {
            if (quarters != 2 && rows != columns) {
                return false;
            }
            for (int r = 0; r < rows; r++) {
                for (int c = 0; c < columns; c++) {
                    int fromRow = quarters == 2 ? rows - 1 - r : quarters == 1 ? rows - 1 - c : c;
                    int fromColumn = quarters == 2 ? columns - 1 - c : quarters == 1 ? r : columns - 1 - r;
                    if (kindOf(fromRow * columns + fromColumn) != kindOf(r * columns + c)) {
                        return false;
                    }
                }
            }
            return true;
        }

        boolean looksMirrored() {
            for (int r = 0; r < rows; r++) {
                for (int c = 0; c < columns; c++) {
                    if (kindOf(r * columns + columns - 1 - c) != kindOf(r * columns + c)) {
                        return false;
                    }
                }
            }
            return true;
        }
    }

    /** CHAIRS, DUST, THE MACHINE and DAY: what is undone and kept. */
    private static final class State {
        private final int[] dust = new int[MOST_SPOTS];
        private int spot = 0;
        private int heading = 0;
        private int current = 100;
        private int box = 0;
        private int steps = 0;
        private int bumps = 0;
        private int day = 0;
        private long chairs = 0L;

        void begin(int start) {
            clearDust();
            spot = start;
            heading = 0;
            current = 100;
            box = 0;
            steps = 0;
            bumps = 0;
            day = 0;
            chairs = 0L;
        }

        void copyFrom(State other) {
            if (other == null) {
                return;
            }
            System.arraycopy(other.dust, 0, dust, 0, MOST_SPOTS);
            spot = other.spot;
            heading = other.heading;
            current = other.current;
            box = other.box;
            steps = other.steps;
            bumps = other.bumps;
            day = other.day;
            chairs = other.chairs;
        }

        void clearDust() {
            Arrays.fill(dust, 0);
        }

        int dustAt(int at) {
            return at >= 0 && at < MOST_SPOTS ? dust[at] : 0;
        }

        void putDust(int at, int much) {
            if (at >= 0 && at < MOST_SPOTS) {
                dust[at] = Math.max(0, Math.min(much, MOST_DUST));
            }
        }

        int dustOfAll() {
            int sum = 0;
            for (int at = 0; at < MOST_SPOTS; at++) {
                sum += dust[at];
            }
            return sum;
        }

        long dusty() {
            long set = 0L;
            for (int at = 0; at < MOST_SPOTS; at++) {
                set |= dust[at] > 0 ? bit(at) : 0L;
            }
            return set;
        }

        void dayFalls(Plan plan) {
            day++;
            for (int at = 0; at < MOST_SPOTS; at++) {
                if (holds(plan.open, at)) {
                    putDust(at, dust[at] + (holds(plan.rugs, at) ? 2 : 1));
                }
            }
        }

        void enter(int next) {
            spot = next;
            box += dustAt(next);
            putDust(next, 0);
        }

        void strike(int quarters) {
            turnBy(quarters);
            bumps++;
        }

        void turnBy(int quarters) {
            heading = heading + quarters & 3;
        }
    }

    /** THE RULE, as numbers and signs in the order in which they are reckoned: what is reckoned with stands ahead. */
    private static final class Rule {
        private static final int MOST = 40;
        private static final int NEGATE = '~';

        private final int[] codes = new int[MOST];
        private final int[] stack = new int[MOST];
        private int length = 0;

        void begin() {
            length = 0;
        }

        void addNumber(int number) {
            add(number);
        }

        /** Signs are below 0, as numbers never are. */
        void addSign(int sign) {
            add(-sign);
        }

        private void add(int code) {
            if (length >= 0 && length < MOST) {
                codes[length] = code;
                length++;
            }
        }

        int turnOf(State m, Plan plan) {
            int top = 0;
            for (int i = 0; i < length && i < MOST; i++) {
                int code = codes[i];
                if (code >= 0 || isThing(-code)) {
                    if (top < MOST) {
                        stack[top] = code >= 0 ? code : thing(-code, m, plan);
                        top++;
                    }
                } else if (-code == NEGATE) {
                    if (top >= 1) {
                        stack[top - 1] = -stack[top - 1];
                    }
                } else if (top >= 2) {
                    top--;
                    stack[top - 1] = reckoned(-code, stack[top - 1], stack[top]);
                }
            }
            int rest = length == 0 ? 1 : stack[0] % 4;
            return rest < 0 ? rest + 4 : rest;
        }

        static boolean isThing(int sign) {
            return sign == 'b' || sign == 'h' || sign == 's' || sign == 'r' || sign == 'd';
        }

        private static int thing(int sign, State m, Plan plan) {
            switch (sign) {
                case 'b':
                    return m.bumps & 7;
                case 'h':
                    return m.heading;
                case 's':
                    return m.spot;
                case 'r':
                    return oneIf(holds(plan.rugs, m.spot));
                default:
                    return m.dustAt(m.spot);
            }
        }

        private static int reckoned(int sign, int a, int b) {
            switch (sign) {
                case '+':
                    return a + b;
                case '-':
                    return a - b;
                case '*':
                    return a * b;
                case '/':
                    return b == 0 ? 0 : a / b;
                case '<':
                    return oneIf(a < b);
                case '>':
                    return oneIf(a > b);
                default:
                    return oneIf(a == b);
            }
        }
    }

    /** Reads THE TEXT as a rule; each part stops at the sign that can't stand there. */
    private static final class RuleReader {
        private static final int MOST_NESTED = 4;
        private static final int MOST_DIGITS = 3;
        /** What binds least is the lowest level. */
        private static final int COMPARED = 0;
        private static final int ADDED = 1;
        private static final int MULTIPLIED = 2;
        private static final int SIGNED = 3;

        private Text text = null;
        private Rule target = null;
        private int limit = 0;
        private int at = 0;

        /** Where the sign is that can't stand, NONE if all can. */
        int read(Text from, Rule to) {
            text = from;
            target = to;
            limit = Math.min(from.size(), Rule.MOST);
            at = 0;
            to.begin();
            if (from.size() == 0) {
                return NONE;
            }
            boolean stands = readLevel(COMPARED, 0) && at == limit && from.size() == limit;
            return stands ? NONE : at;
        }

        private int here() {
            return text != null && at < limit ? text.at(at) : NONE;
        }

        private void emit(int sign) {
            if (target != null) {
                target.addSign(sign);
            }
        }

        /** One method for all levels, as they differ in their signs alone; comparing is done once at most. */
        private boolean readLevel(int level, int depth) {
            if (level >= SIGNED) {
                return readSigned(depth);
            }
            if (level < 0 || !readLevel(level + 1, depth)) {
                return false;
            }
            int most = level == COMPARED ? 1 : Rule.MOST;
            for (int i = 0; i < most && levelOf(here()) == level; i++) {
                int sign = here();
                at++;
                if (!readLevel(level + 1, depth)) {
                    return false;
                }
                emit(sign);
            }
            return true;
        }

        private static int levelOf(int sign) {
            switch (sign) {
                case '<':
                case '>':
                case '=':
                    return COMPARED;
                case '+':
                case '-':
                    return ADDED;
                case '*':
                case '/':
                    return MULTIPLIED;
                default:
                    return NONE;
            }
        }

        private boolean readSigned(int depth) {
            int minuses = 0;
            for (; minuses < Rule.MOST && here() == '-'; minuses++) {
                at++;
            }
            if (!readThing(depth)) {
                return false;
            }
            for (int i = 0; i < minuses; i++) {
                emit(Rule.NEGATE);
            }
            return true;
        }

        private boolean readThing(int depth) {
            int sign = here();
            if (isDigit(sign)) {
                readNumber();
                return true;
            }
            if (Rule.isThing(sign)) {
                at++;
                emit(sign);
                return true;
            }
            if (sign != '(' || depth >= MOST_NESTED) {
                return false;
            }
            at++;
            if (!readLevel(COMPARED, depth + 1) || here() != ')') {
                return false;
            }
            at++;
            return true;
        }

        private void readNumber() {
            int number = 0;
            for (int i = 0; i < MOST_DIGITS && isDigit(here()); i++) {
                number = number * 10 + here() - '0';
                at++;
            }
            if (target != null) {
                target.addNumber(number);
            }
        }

        private static boolean isDigit(int sign) {
            return sign >= '0' && sign <= '9';
        }
    }

    /** The latest states that can be come back to; the oldest gives way. */
    private static final class History {
        private static final int MOST = 15;
        private final State[] ring = new State[MOST];
        private int next = 0;
        private int length = 0;

        History() {
            for (int i = 0; i < MOST; i++) {
                ring[i] = new State();
            }
        }

        int size() {
            return length;
        }

        void clear() {
            length = 0;
        }

        void push(State state) {
            if (next < 0 || next >= MOST || ring[next] == null) {
                return;
            }
            ring[next].copyFrom(state);
            next = next + 1 < MOST ? next + 1 : 0;
            length = Math.min(length + 1, MOST);
        }

        boolean pop(State into) {
            if (length <= 0) {
                return false;
            }
            next = next > 0 ? next - 1 : MOST - 1;
            length--;
            if (next < MOST) {
                into.copyFrom(ring[next]);
            }
            return true;
        }
    }

    /** SPOTS by the cost of the cheapest way from them to one goal. */
    private static final class Ways {
        private static final int NO_WAY = 500;
        /** Above what 35 steps from rugs cost, and the two behind that. */
        private static final int COSTS = 74;

        private final long[] byCost = new long[COSTS];
        private long met = 0L;

        /**
         * A SPOT's own kind tells its cost, so that the first neighbour found, by rising cost, is the best one.
         */
        void measure(Plan plan, long free, int goal) {
            Arrays.fill(byCost, 0L);
            met = bit(goal) & free;
            byCost[0] = met;
            for (int cost = 0; cost + 2 < COSTS; cost++) {
                if (byCost[cost] == 0L) {
                    continue;
                }
                long found = plan.around(byCost[cost]) & free & ~met;
                met |= found;
                byCost[cost + 1] |= found & ~plan.rugs;
                byCost[cost + 2] |= found & plan.rugs;
            }
        }

        int costFrom(int spot) {
            for (int cost = 0; cost < COSTS && holds(met, spot); cost++) {
                if (holds(byCost[cost], spot)) {
                    return cost;
                }
            }
            return NO_WAY;
        }

        int greatest(long free) {
            if (met != free) {
                return NO_WAY;
            }
            int greatest = 0;
            for (int cost = 0; cost < COSTS; cost++) {
                greatest = byCost[cost] != 0L ? cost : greatest;
            }
            return greatest;
        }

        int firstAt(int cost, long among) {
            return cost >= 0 && cost < COSTS ? Plan.firstOf(byCost[cost] & among) : NONE;
        }
    }

    /** What was felt, and the places that fit it. */
    private static final class Heard {
        private static final int MOST = 12;
        /** Beside these, 1 .. 3: swung by so many quarters. */
        private static final int WENT = 0;
        private static final int STRUCK = 4;

        private final int[] things = new int[MOST];
        private final long[] byHeading = new long[HEADINGS];
        private int length = 0;

        int size() {
            return length;
        }

        void clear() {
            length = 0;
        }

        boolean add(int thing) {
            if (length < 0 || length >= MOST) {
                return false;
            }
            things[length] = thing;
            length++;
            return true;
        }

        /** Anew each time, as chairs may have been moved since it was felt. */
        void find(Plan plan, long free) {
            Arrays.fill(byHeading, free);
            for (int i = 0; i < length && i < MOST; i++) {
                if (things[i] == WENT) {
                    goOnAll(plan, free);
                } else if (things[i] == STRUCK) {
                    strikeAll(plan, free);
                } else {
                    swingAll(things[i]);
                }
            }
        }

        private void goOnAll(Plan plan, long free) {
            for (int heading = 0; heading < HEADINGS; heading++) {
                byHeading[heading] = plan.moved(byHeading[heading], heading) & free;
            }
        }

        private void strikeAll(Plan plan, long free) {
            for (int heading = 0; heading < HEADINGS; heading++) {
                byHeading[heading] &= ~canGo(plan, free, heading);
            }
        }

        private void swingAll(int quarters) {
            for (int i = 0; i < quarters; i++) {
                long last = byHeading[3];
                byHeading[3] = byHeading[2];
                byHeading[2] = byHeading[1];
                byHeading[1] = byHeading[0];
                byHeading[0] = last;
            }
        }

        /** SPOTS whose SPOT ahead is free: the free ones, gone back by one. */
        private static long canGo(Plan plan, long free, int heading) {
            return plan.moved(free, heading + 2 & 3);
        }

        int places() {
            int places = 0;
            for (int heading = 0; heading < HEADINGS; heading++) {
                places += Long.bitCount(byHeading[heading]);
            }
            return places;
        }

        long spots() {
            return byHeading[0] | byHeading[1] | byHeading[2] | byHeading[3];
        }

        int strikes(Plan plan, long free, int quarters) {
            int strikes = 0;
            for (int heading = 0; heading < HEADINGS; heading++) {
                strikes += Long.bitCount(byHeading[heading] & ~canGo(plan, free, heading + quarters & 3));
            }
            return strikes;
        }
    }

    /** Looks for the most dust in some steps. */
    private static final class Sweep {
        private static final int MOST = 6;
        /** Up, left, right, down: by rising SPOT, so that of rows as long the first one found is the least. */
        private static final int[] RISING = {0, 3, 1, 2};

        private final int[] path = new int[MOST];
        private final int[] found = new int[MOST];
        private Plan plan = null;
        private State state = null;
        private long free = 0L;
        private int limit = 0;
        private int richest = 0;
        private int mostDust = 0;
        private int fewest = 0;

        void seek(Plan in, State from, int steps) {
            plan = in;
            state = from;
            free = in.open & ~from.chairs;
            limit = Math.min(steps, MOST);
            mostDust = 0;
            fewest = 0;
            richest = 0;
            for (int spot = 0; spot < MOST_SPOTS; spot++) {
                richest = Math.max(richest, holds(free, spot) ? from.dustAt(spot) : 0);
            }
            goFarther(from.spot, 0, 0, bit(from.spot));
        }

        int foundAt(int i) {
            return i >= 0 && i < MOST ? found[i] : NONE;
        }

        private void goFarther(int spot, int depth, int had, long taken) {
            if (had > mostDust || had == mostDust && depth < fewest) {
                noteFound(depth, had);
            }
            if (depth < 0 || depth >= limit || depth >= MOST || !canBeBetter(depth, had)) {
                return;
            }
            if (plan == null || state == null) {
                return;
            }
            for (int i = 0; i < RISING.length; i++) {
                int next = plan.aheadOf(spot, RISING[i]);
                if (holds(free, next)) {
                    path[depth] = next;
                    int more = holds(taken, next) ? 0 : state.dustAt(next);
                    goFarther(next, depth + 1, had + more, taken | bit(next));
                }
            }
        }

        /** As good is not enough: what is found later has as many steps, and its row is not less. */
        private boolean canBeBetter(int depth, int had) {
            return had + (limit - depth) * richest > mostDust;
        }

        private void noteFound(int depth, int had) {
            mostDust = had;
            fewest = depth;
            for (int i = 0; i < depth && i < MOST; i++) {
                found[i] = path[i];
            }
        }
    }
}
