import java.math.BigInteger;

/** Promises 35 to 41, sentence by sentence: likely, week, looks, box, clean, rests, weeks. */
public final class ChanceEdgesTest extends Edges {
    public static void main(String[] args) {
        ChanceEdgesTest test = new ChanceEdgesTest();
        test.likely();
        test.week();
        test.looks();
        test.box();
        test.clean();
        test.rests();
        test.weeks();
        test.draws();
        test.close(35, 41);
    }

    private void likely() {
        edge(35, "In n steps (0 .. 10),", check -> {
            UnderTheSofa x = in("..");
            long lower = 1;
            for (int n = 0; n <= 10; n++) {
                check.due("likely(" + n + ", 1)", x.likely(n, 1), 0);
                check.row("likely(" + n + ", 1)", x, n == 0 ? 0 : lower - 1, n == 0 ? 1 : 2 * lower);
                lower *= 2;
            }
        });
        edge(35, "each time one of four directions by like chance", check -> {
            UnderTheSofa x = in(".../.../...", 4, 0);
            int[] spots = {1, 5, 7, 3, 4, 0};
            long[][] due = {{1, 4}, {1, 4}, {1, 4}, {1, 4}, {0, 1}, {0, 1}};
            for (int i = 0; i < spots.length; i++) {
                x.likely(1, spots[i]);
                check.row("likely(1, " + spots[i] + ")", x, due[i]);
            }
            x.likely(2, 0);
            check.row("a corner by two ways", x, 1, 8);
        });
        edge(35, "(it stays, if that SPOT is not FREE),", check -> {
            UnderTheSofa x = in("..#");
            x.likely(1, 0);
            check.row("outside", x, 3, 4);
            x.carry(1, 0);
            x.likely(1, 1);
            check.row("a wall", x, 3, 4);
            x.chair(0);
            x.likely(1, 1);
            check.row("a chair", x, 1, 1);
            x.likely(10, 0);
            check.row("never at a chair's", x, 0, 1);
            x.likely(10, 2);
            check.row("never at a wall's", x, 0, 1);
        });
        edge(35, "from where it is: how likely it is at a SPOT: 0; the ROW: the fraction.", check -> {
            UnderTheSofa x = in("...", 2, 0);
            check.due("where it is", x.likely(0, 2), 0);
            check.row("where it is", x, 1, 1);
            check.due("elsewhere", x.likely(0, 0), 0);
            check.row("elsewhere", x, 0, 1);
            x.likely(2, 0);
            check.row("two steps away", x, 1, 16);
            UnderTheSofa y = in(GREATEST);
            y.likely(10, 35);
            check.row("the other corner in ten, 252 by 4^10 in lowest terms", y, 63, 1 << 18);
        });
        edge(35, "NONE: others.", check -> {
            UnderTheSofa x = in("..");
            for (int n : new int[] {-1, 11, Integer.MIN_VALUE, Integer.MAX_VALUE}) {
                check.due("likely(" + n + ", 0)", x.likely(n, 0), NONE);
            }
            for (int spot : new int[] {-1, 2, 36, Integer.MIN_VALUE, Integer.MAX_VALUE}) {
                check.due("likely(1, " + spot + ")", x.likely(1, spot), NONE);
                check.due("likely(0, " + spot + ")", x.likely(0, spot), NONE);
            }
            check.due("numbers of the row", x.count(9), 0);
        });
    }

    private void week() {
        edge(36, "On which k of 7 days (0 .. 7; bits 0 .. 6) to sweep,", check -> {
            UnderTheSofa x = new UnderTheSofa();
            for (int k = 0; k <= 7; k++) {
                check.due("week(" + k + ", 1) is answered", x.week(k, 1) >= 0, true);
                check.due("days of week(" + k + ", 1)", Long.bitCount(x.row(0)), k);
                check.due("bits 0 .. 6", x.row(0) >= 0 && x.row(0) < 128, true);
            }
        });
        edge(36, "so that the least DUST lies, all days together:", check -> {
            UnderTheSofa x = new UnderTheSofa();
            int[] due = {28, 12, 7, 4, 3, 2, 1, 0};
            for (int k = 0; k <= 7; k++) {
                check.due("week(" + k + ", 1)", x.week(k, 1), due[k]);
            }
        });
        edge(36, "on each day v (1 .. 9) more falls,", check -> {
            UnderTheSofa x = new UnderTheSofa();
            for (int v = 1; v <= 9; v++) {
                check.due("week(0, " + v + ")", x.week(0, v), 28 * v);
                check.due("week(2, " + v + ")", x.week(2, v), 7 * v);
            }
            x.days(30);
            check.due("the flat's own dust does not matter", x.week(0, 1), 28);
        });
        edge(36, "then, if it is swept, all is gone, then it is counted; at first there is none: how much;", check -> {
            UnderTheSofa x = new UnderTheSofa();
            check.due("swept on each day", x.week(7, 9), 0);
            check.due("on six: one day's dust is counted once", x.week(6, 9), 9);
            check.due("on one: 1 + 2 + 3 twice", x.week(1, 1), 12);
        });
        edge(36, "the ROW: the days (of as good ones the least bits).", check -> {
            UnderTheSofa x = new UnderTheSofa();
            for (int k = 0; k <= 7; k++) {
                x.week(k, 4);
                check.row("week(" + k + ", 4)", x, leastDays(k));
            }
            x.week(1, 1);
            check.row("the fourth day alone", x, 8);
            x.week(6, 1);
            check.row("of seven as good ones the least", x, 63);
        });
        edge(36, "NONE: others.", check -> {
            UnderTheSofa x = new UnderTheSofa();
            for (int k : new int[] {-1, 8, Integer.MIN_VALUE, Integer.MAX_VALUE}) {
                check.due("week(" + k + ", 1)", x.week(k, 1), NONE);
            }
            for (int v : new int[] {0, -1, 10, Integer.MIN_VALUE, Integer.MAX_VALUE}) {
                check.due("week(1, " + v + ")", x.week(1, v), NONE);
            }
            check.due("numbers of the row", x.count(9), 0);
        });
    }

    /** Runs of days without sweeping cost 1, 3, 6, ..: the least bits among those by which they cost least. */
    private static long leastDays(int k) {
        long best = -1;
        int least = Integer.MAX_VALUE;
        for (int days = 127; days >= 0; days--) {
            int cost = 0;
            for (String rest : Integer.toBinaryString(128 + days).substring(1).split("1")) {
                cost += rest.length() * (rest.length() + 1) / 2;
            }
            if (Integer.bitCount(days) == k && cost <= least) {
                least = cost;
                best = days;
            }
        }
        return best;
    }

    private static void looksLike(Check check, String flat, int turns, int mirrored) {
        UnderTheSofa x = in(flat);
        check.due("looks() of " + flat, x.looks(), turns);
        check.row("looks() of " + flat, x, Integer.bitCount(turns), mirrored);
    }

    private void looks() {
        edge(37, "Quarter turns to the right (bits: 1 .. 3) by which THE FLAT", check -> {
            looksLike(check, "#r#/r.r/#r#", 2 + 4 + 8, 1);
            looksLike(check, ".#../...#/#.../..#.", 2 + 4 + 8, 0);
            looksLike(check, ".r/r.", 4, 0);
            looksLike(check, "#./..", 0, 0);
            looksLike(check, "....../....../....../....../....../......", 14, 1);
            looksLike(check, ".", 14, 1);
        });
        edge(37, "(WALLS, BARE, RUGS; CHAIRS, the PLUG, DUST left aside)", check -> {
            looksLike(check, ".#.", 4, 1);
            looksLike(check, "#..", 0, 0);
            looksLike(check, "r..", 0, 0);
            looksLike(check, "r.#", 0, 0);
            looksLike(check, "p..", 4, 1);
            looksLike(check, "q.r", 4, 1);
            looksLike(check, "q..", 0, 0);
            UnderTheSofa x = in("p../...");
            x.chair(1);
            x.chair(5);
            x.sheet(2, 6, 5, 3);
            check.due("chairs and dust", x.looks(), 4);
            check.row("chairs and dust", x, 1, 1);
        });
        edge(37, "looks like itself: they;", check -> {
            looksLike(check, ".r", 0, 0);
            looksLike(check, "..", 4, 1);
            looksLike(check, "./.", 4, 1);
            looksLike(check, "../../..", 4, 1);
            looksLike(check, ".#", 0, 0);
            looksLike(check, "./#", 0, 1);
            looksLike(check, ".##", 0, 0);
            looksLike(check, ".#./###", 0, 1);
            looksLike(check, "..r/r..", 4, 0);
        });
        edge(37, "the ROW: how many, 1 if it does in a mirror (left and right changed), else 0.", check -> {
            looksLike(check, "r./r.", 0, 0);
            looksLike(check, "rr/..", 0, 1);
            looksLike(check, ".r./...", 0, 1);
            looksLike(check, ".r/.r/r.", 0, 0);
            looksLike(check, "./#/r", 0, 1);
            looksLike(check, "../rr/..", 4, 1);
        });
    }

    private void box() {
        edge(38, "In how many ways BOX can come from SPOTS with DUST (each one's as it is now, or not at all;", check -> {
            UnderTheSofa x = in("....");
            x.sheet(2, 4, 1, 1);
            int[] ways = {1, 1, 1, 2, 2, 2, 2, 2, 1, 1, 1, 0};
            for (int v = 0; v < ways.length; v++) {
                check.due("box(" + v + ") of 1, 2, 3, 4", x.box(v), ways[v]);
            }
            x.chair(3);
            check.due("under a chair too", x.box(10), 1);
            x.sheet(2, 4, 5, 0);
            check.due("equal ones", x.box(10), 6);
            x.sheet(2, 4, 7, 92);
            check.due("7 and three by 99", x.box(7 + 99), 3);
            x.sheet(3, 0, 0, 0);
            check.due("without dust", x.box(0), 1);
            check.due("without dust", x.box(1), 0);
            check.due("its own box does not matter", x.machine(3), 0);
        });
        edge(38, "20 of these at most; -2: more)", check -> {
            UnderTheSofa x = in(GREATEST);
            x.sheet(2, 20, 1, 0);
            check.due("20", x.box(10), 184756);
            check.due("20, none of them", x.box(0), 1);
            x.sheet(2, 21, 1, 0);
            check.due("21", x.box(10), -2);
            check.due("21, none of them", x.box(0), -2);
            x.sheet(2, 36, 1, 0);
            check.due("36", x.box(999), -2);
            x.sheet(2, 36, -20, 1);
            check.due("15 with dust, 21 without", x.box(1), 1);
        });
        edge(38, "so that it is v (0 .. 999): how many;", check -> {
            UnderTheSofa x = in(GREATEST);
            x.sheet(2, 11, 99, 0);
            check.due("none of eleven", x.box(0), 1);
            check.due("ten of eleven", x.box(990), 11);
            check.due("none by 999", x.box(999), 0);
            check.due("none by 998", x.box(998), 0);
            x.sheet(2, 11, 9, 99);
            check.due("9 and ten by 99", x.box(999), 1);
            check.row("9 and ten by 99", x, 2047);
            x.sheet(2, 20, 46, 1);
            check.due("all of 46 to 65 but two", x.box(999), 10);
            check.row("all of 46 to 65 but two", x, 0);
        });
        edge(38, "the ROW: SPOTS (bits) that are in all of these ways (0 without).", check -> {
            UnderTheSofa x = in("....");
            x.sheet(2, 4, 1, 1);
            long[] due = {0, 1, 2, 0, 0, 0, 2, 8, 1 + 4 + 8, 2 + 4 + 8, 15, 0};
            for (int v = 0; v < due.length; v++) {
                x.box(v);
                check.row("box(" + v + ") of 1, 2, 3, 4", x, due[v]);
            }
            UnderTheSofa y = in(GREATEST);
            y.sheet(2, 36, -33, 1);
            y.box(3);
            check.row("the last two", y, 3L << 34);
            y.box(2);
            check.row("the last", y, 1L << 35);
            UnderTheSofa z = in("....");
            z.sheet(2, 4, 5, 0);
            z.box(10);
            check.row("two of four", z, 0);
            z.box(20);
            check.row("four of four", z, 15);
            z.box(7);
            check.row("without", z, 0);
        });
        edge(38, "NONE: another v.", check -> {
            UnderTheSofa x = in(GREATEST);
            for (int dusty : new int[] {0, 21}) {
                x.sheet(2, dusty, 1, 0);
                for (int v : new int[] {-1, 1000, Integer.MIN_VALUE, Integer.MAX_VALUE}) {
                    check.due("box(" + v + ") with " + dusty, x.box(v), NONE);
                }
            }
            check.due("numbers of the row", x.count(9), 0);
        });
    }

    private static BigInteger sets(int n, int k) {
        return k > n ? BigInteger.ZERO : k == 0 ? BigInteger.ONE : sets(n - 1, k - 1).multiply(BigInteger.valueOf(n)).divide(BigInteger.valueOf(k));
    }

    private void clean() {
        edge(39, "k SPOTS of those that are no WALL are looked at by lot (each set of k by like chance):", check -> {
            for (int dusty = 0; dusty <= 36; dusty += 3) {
                UnderTheSofa x = in(GREATEST);
                x.sheet(2, dusty, 1, 0);
                for (int k = 1; k <= 36; k++) {
                    BigInteger upper = sets(36 - dusty, k);
                    BigInteger lower = sets(36, k);
                    BigInteger by = upper.gcd(lower);
                    check.due("clean(" + k + ")", x.clean(k), 0);
                    check.row("clean(" + k + ") with " + dusty, x, upper.divide(by).longValueExact(), lower.divide(by).longValueExact());
                }
            }
            UnderTheSofa y = in(".##.");
            y.sheet(2, 1, 1, 0);
            y.clean(1);
            check.row("walls are none of them", y, 1, 2);
            y.chair(3);
            y.clean(1);
            check.row("a chair's is one of them", y, 1, 2);
        });
        edge(39, "how likely none of them has DUST: 0; the ROW: the fraction.", check -> {
            UnderTheSofa x = in("....");
            check.due("clean(4)", x.clean(4), 0);
            check.row("without dust", x, 1, 1);
            x.sheet(2, 1, 1, 0);
            check.due("clean(3)", x.clean(3), 0);
            check.row("one of four", x, 1, 4);
            check.due("clean(4)", x.clean(4), 0);
            check.row("one of four, all looked at", x, 0, 1);
            x.sheet(2, 4, 99, 0);
            check.due("clean(1)", x.clean(1), 0);
            check.row("all have dust", x, 0, 1);
        });
        edge(39, "NONE: k below 1, or more than there are.", check -> {
            UnderTheSofa x = in("..#");
            for (int k : new int[] {0, -1, 3, 4, Integer.MIN_VALUE, Integer.MAX_VALUE}) {
                check.due("clean(" + k + ")", x.clean(k), NONE);
            }
            check.due("numbers of the row", x.count(9), 0);
            check.due("as many as there are", x.clean(2), 0);
            check.due("36", in(GREATEST).clean(36), 0);
            check.due("37", in(GREATEST).clean(37), NONE);
        });
    }

    /** What one has that waits so long, the other one's wait and v told. */
    private static int has(int own, int other, int v) {
        return own < other ? v - own : own > other ? -own : -(own + 5);
    }

    private void rests() {
        edge(40, "Two machines wait x and y minutes (0 .. 9) ahead of a door; who waits less goes first and has v (1 .. 99) less what it waited, "
            + "the other one has 0 less what it waited; if they wait as long, each has 0 less what it waited and 5.", check -> {
                UnderTheSofa x = new UnderTheSofa();
                for (int v = 1; v <= 99; v++) {
                    int pairs = 0;
                    for (int own = 0; own <= 9; own++) {
                        for (int other = 0; other <= 9; other++) {
                            boolean rests = true;
                            for (int another = 0; another <= 9; another++) {
                                rests &= has(another, other, v) <= has(own, other, v) && has(another, own, v) <= has(other, own, v);
                            }
                            pairs += rests ? 1 : 0;
                        }
                    }
                    check.due("rests(" + v + ")", x.rests(v), pairs);
                }
            });
        edge(40, "Pairs by which neither would have more by another number alone: how many;", check -> {
            UnderTheSofa x = new UnderTheSofa();
            check.due("rests(1)", x.rests(1), 2);
            check.due("rests(99)", x.rests(99), 2);
        });
        edge(40, "the ROW: the least (nothing without).", check -> {
            UnderTheSofa x = new UnderTheSofa();
            for (int v : new int[] {1, 4, 5, 9, 99}) {
                check.due("rests(" + v + ") has some", x.rests(v) > 0, true);
                check.row("rests(" + v + ")", x, 0, 1);
            }
        });
        edge(40, "NONE: another v.", check -> {
            UnderTheSofa x = new UnderTheSofa();
            for (int v : new int[] {0, -1, 100, Integer.MIN_VALUE, Integer.MAX_VALUE}) {
                check.due("rests(" + v + ")", x.rests(v), NONE);
            }
            check.due("numbers of the row", x.count(9), 0);
        });
    }

    /** The least seed whose draws are these, of 8 and of 4 as told; a draw below 0 may be any. */
    private static int seedOf(int[] of, int... draws) {
        for (int seed = 0; seed < 10_000_000; seed++) {
            long r = seed;
            boolean fits = true;
            for (int i = 0; i < draws.length && fits; i++) {
                r = r * 1103515245L + 12345L & 0xffffffffL;
                long drawn = r / 65536 % of[i];
                fits = draws[i] == drawn || draws[i] == ANY_STEP && drawn < 6 || draws[i] == NOT_NONE && drawn > 0;
            }
            if (fits) {
                return seed;
            }
        }
        throw new IllegalStateException("no such seed");
    }

    private static final int ANY_STEP = -1;
    private static final int NOT_NONE = -2;

    private void weeks() {
        edge(41, "n times (1 .. 60), CURRENT left aside:", check -> {
            UnderTheSofa x = new UnderTheSofa();
            for (int n : new int[] {1, 2, 59, 60}) {
                long r = 7;
                int days = 0;
                for (int i = 0; i < n; i++) {
                    r = r * 1103515245L + 12345L & 0xffffffffL;
                    days += r / 65536 % 8 == 7 ? 1 : 0;
                }
                check.due("weeks(7, " + n + ")", x.weeks(7, n), 0);
                check.row("weeks(7, " + n + ")", x, 0, days);
            }
            UnderTheSofa y = out("p...", 0, 1);
            y.sheet(2, 4, 3, 0);
            check.due("out of current", y.weeks(seedOf(new int[] {8, 8}, ANY_STEP, ANY_STEP), 2), 6);
        });
        edge(41, "a DRAW of 8 tells: 0 .. 5: a STEP (by COST 0),", check -> {
            for (int draw = 0; draw <= 5; draw++) {
                UnderTheSofa x = in("...", 0, 1);
                x.sheet(2, 3, 5, 1);
                check.due("draw " + draw, x.weeks(seedOf(new int[] {8}, draw), 1), 6);
                check.row("draw " + draw, x, 1, 12);
            }
            UnderTheSofa y = in("..", 0, 1);
            rule(y, "b+2");
            y.weeks(seedOf(new int[] {8, 8, 8}, ANY_STEP, ANY_STEP, ANY_STEP), 3);
            check.row("it strikes by the rule", y, 0, 0);
        });
        edge(41, "on a RUG with a DRAW of 4 behind it: if that is 0, HEADING is 1 more (by 4, rest);", check -> {
            int[] of = {8, 4, 8};
            UnderTheSofa x = in("..../.r../....", 4, 1);
            x.weeks(seedOf(of, ANY_STEP, 0, ANY_STEP), 2);
            check.row("0", x, 9, 0);
            for (int draw = 1; draw <= 3; draw++) {
                x.weeks(seedOf(of, ANY_STEP, draw, ANY_STEP), 2);
                check.row("draw of 4: " + draw, x, 6, 0);
            }
            UnderTheSofa y = in("..../.r../....", 9, 0);
            y.weeks(seedOf(of, ANY_STEP, 0, ANY_STEP), 2);
            check.row("from 0 to 1", y, 6, 0);
            UnderTheSofa z = in("..../.r../....", 6, 3);
            z.weeks(seedOf(of, ANY_STEP, 0, ANY_STEP), 2);
            check.row("from 3 to 0", z, 1, 0);
        });
        edge(41, "6: HEADING is 1 more (by 4, rest);", check -> {
            int[] next = {5, 7, 3, 1};
            for (int heading = 0; heading < 4; heading++) {
                UnderTheSofa x = in(".../.../...", 4, heading);
                int seed = seedOf(new int[] {8, 8}, 6, ANY_STEP);
                x.weeks(seed, 1);
                check.row("it stays, by " + heading, x, 4, 0);
                x.weeks(seed, 2);
                check.row("then goes, by " + heading, x, next[heading], 0);
            }
            UnderTheSofa y = in("..../rr../....", 4, 0);
            y.weeks(seedOf(new int[] {8, 8, 4, 8}, 6, ANY_STEP, NOT_NONE, ANY_STEP), 3);
            check.row("no draw behind a turn on a rug", y, 6, 0);
        });
        edge(41, "7: a DAY:", check -> {
            UnderTheSofa x = in(".r#", 0, 1);
            x.sheet(2, 3, 97, 1);
            check.due("a day", x.weeks(seedOf(new int[] {8}, 7), 1), 0);
            check.row("a day", x, 0, 98 + 99);
            check.due("a day and a step", x.weeks(seedOf(new int[] {8, 8}, 7, ANY_STEP), 2), 99);
            check.due("no day goes by itself", x.count(6), 0);
        });
    }

    private void draws() {
        edge(41, "DUST that came into BOX in these;", check -> {
            UnderTheSofa x = in("....", 0, 1);
            x.sheet(2, 4, 10, 1);
            x.steps(1);
            check.due("the box was not empty", x.machine(3), 11);
            check.due("one step", x.weeks(seedOf(new int[] {8}, ANY_STEP), 1), 12);
            check.due("two steps", x.weeks(seedOf(new int[] {8, 8}, ANY_STEP, ANY_STEP), 2), 25);
        });
        edge(41, "the ROW: where it is then, DUST of all then.", check -> {
            UnderTheSofa x = in("....", 0, 1);
            x.sheet(2, 4, 10, 1);
            x.weeks(seedOf(new int[] {8, 8, 8}, ANY_STEP, ANY_STEP, 7), 3);
            check.row("two steps and a day", x, 2, 10 + 13 + 4);
            check.due("it is where it was", x.machine(0), 0);
            check.due("the dust lies as it lay", x.count(4), 46);
        });
        edge(41, "NONE: another n.", check -> {
            UnderTheSofa x = in("..");
            for (int n : new int[] {0, -1, 61, Integer.MIN_VALUE, Integer.MAX_VALUE}) {
                check.due("weeks(1, " + n + ")", x.weeks(1, n), NONE);
            }
            check.due("numbers of the row", x.count(9), 0);
        });
        edge(41, "(The RUG is that on which it is behind the STEP.)", check -> {
            UnderTheSofa x = in("..../r.../....", 4, 1);
            x.weeks(seedOf(new int[] {8, 8, 8}, ANY_STEP, ANY_STEP, 6), 3);
            check.row("no draw behind a step from a rug", x, 6, 0);
            UnderTheSofa y = in("r.", 0, 3);
            rule(y, "1");
            y.weeks(seedOf(new int[] {8, 4, 8}, ANY_STEP, 0, ANY_STEP), 2);
            check.row("a draw where it struck on a rug", y, 1, 0);
        });
        edge(41, "A DRAW of n: R = R times 1103515245 + 12345 (as ints; R is seed at first), (R without sign, by 65536) % n.", check -> {
            UnderTheSofa x = in(".../.../...", 4, 0);
            x.sheet(2, 9, 1, 1);
            for (int seed : new int[] {0, 1, -1, 2, 12345, Integer.MAX_VALUE, Integer.MIN_VALUE, 1103515245, -1103515245}) {
                long r = seed & 0xffffffffL;
                r = r * 1103515245L + 12345L & 0xffffffffL;
                long draw = r / 65536 % 8;
                int due = draw < 6 ? 2 : 0;
                check.due("the first draw by " + seed, x.weeks(seed, 1), due);
                check.row("the first draw by " + seed, x, draw < 6 ? 1 : 4, draw < 6 ? 43 : draw == 6 ? 45 : 54);
            }
        });
    }
}
