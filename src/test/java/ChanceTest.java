import java.math.BigInteger;

/** Promises 35 to 41: likely, week, looks, box, clean, rests, weeks. */
public final class ChanceTest {
    private static final Check check = new Check();

    public static void main(String[] args) {
        likely();
        week();
        looks();
        box();
        clean();
        rests();
        weeks();
        weeksOnRugs();
        check.close("ChanceTest");
    }

    private static void likely() {
        UnderTheSofa x = Check.in("..");
        int[] steps = {0, 0, 1, 1, 2, 2};
        long[][] due = {{1, 1}, {0, 1}, {3, 4}, {1, 4}, {5, 8}, {3, 8}};
        for (int i = 0; i < steps.length; i++) {
            check.due("likely(" + steps[i] + ", " + i % 2 + ")", x.likely(steps[i], i % 2), 0);
            check.row("likely(" + steps[i] + ", " + i % 2 + ")", x, due[i]);
        }
        check.due("likely(10, 1)", x.likely(10, 1), 0);
        check.row("likely(10, 1)", x, 1023, 2048);
        check.due("likely(11, 0)", x.likely(11, 0), -1);
        check.due("likely(-1, 0)", x.likely(-1, 0), -1);
        check.due("likely(1, 2)", x.likely(1, 2), -1);
        check.due("likely(1, -1)", x.likely(1, -1), -1);
        check.row("the row stays", x, 1023, 2048);
        x.chair(1);
        x.likely(1, 0);
        check.row("it stays where a chair is ahead", x, 1, 1);
        x.likely(1, 1);
        check.row("never on a chair", x, 0, 1);
        UnderTheSofa y = Check.in(".#./...");
        y.likely(4, 1);
        check.row("never on a wall", y, 0, 1);
        y.likely(3, 4);
        check.row("down, then to the right, staying once", y, 7, 64);
    }

    private static void week() {
        UnderTheSofa x = new UnderTheSofa();
        int[][] asked = {{0, 1}, {1, 1}, {2, 2}, {3, 1}, {6, 9}, {7, 9}, {0, 9}};
        int[] least = {28, 12, 14, 4, 9, 0, 252};
        int[] days = {0, 8, 2 + 16, 2 + 8 + 32, 1 + 2 + 4 + 8 + 16 + 32, 127, 0};
        for (int i = 0; i < asked.length; i++) {
            check.due("week(" + asked[i][0] + ", " + asked[i][1] + ")", x.week(asked[i][0], asked[i][1]), least[i]);
            check.row("week(" + asked[i][0] + ", " + asked[i][1] + ")", x, days[i]);
        }
        int[][] others = {{-1, 1}, {8, 1}, {1, 0}, {1, 10}, {1, -1}};
        for (int[] other : others) {
            check.due("week(" + other[0] + ", " + other[1] + ")", x.week(other[0], other[1]), -1);
        }
        check.row("the row stays", x, 0);
    }

    private static void looks() {
        String[] flats = {".", "../..", ".r", ".r.", ".r/r.", ".#", "p.", "q.", ".#../...#/#.../..#.", "#r#/r.r/#r#", "./r/.", ".r./...", "r./.."};
        int[] due = {14, 14, 0, 4, 4, 0, 4, 0, 14, 14, 4, 0, 0};
        int[][] rows = {{3, 1}, {3, 1}, {0, 0}, {1, 1}, {1, 0}, {0, 0}, {1, 1}, {0, 0}, {3, 0}, {3, 1}, {1, 1}, {0, 1}, {0, 0}};
        for (int i = 0; i < flats.length; i++) {
            UnderTheSofa x = Check.in(flats[i]);
            check.due("looks() of " + flats[i], x.looks(), due[i]);
            check.row("looks() of " + flats[i], x, rows[i][0], rows[i][1]);
        }
        UnderTheSofa x = Check.in("p../...");
        x.days(3);
        x.turn(1);
        x.steps(2);
        x.chair(3);
        check.due("chairs and dust are left aside", x.looks(), 4);
        check.row("chairs and dust are left aside", x, 1, 1);
    }

    private static void box() {
        UnderTheSofa x = Check.in("...");
        x.sheet(2, 3, 1, 1);
        int[] values = {0, 1, 3, 5, 6, 7, 999};
        int[] ways = {1, 1, 2, 1, 1, 0, 0};
        long[] always = {0, 1, 0, 6, 7, 0, 0};
        for (int i = 0; i < values.length; i++) {
            check.due("box(" + values[i] + ")", x.box(values[i]), ways[i]);
            check.row("box(" + values[i] + ")", x, always[i]);
        }
        x.sheet(2, 3, 2, 2);
        check.due("one is in all ways", x.box(8), 1);
        check.row("one is in all ways", x, 5);
        UnderTheSofa y = Check.in("....");
        y.sheet(2, 4, 5, 0);
        check.due("equal ones", y.box(10), 6);
        check.row("equal ones", y, 0);
        y.chair(3);
        check.due("under a chair too", y.box(20), 1);
        check.row("under a chair too", y, 15);
        y.sheet(2, 4, 1, 2);
        check.due("two ways", y.box(8), 2);
        check.row("two ways", y, 0);
        y.sheet(2, 4, 2, 1);
        check.due("two ways by 4", y.box(9), 2);
        check.row("4 + 5 and 2 + 3 + 4", y, 4);
        UnderTheSofa z = Check.in("....../....../....../....../....../......");
        z.sheet(2, 20, 1, 0);
        check.due("20 of these", z.box(10), 184756);
        check.row("20 of these", z, 0);
        check.due("all 20", z.box(20), 1);
        check.row("all 20", z, (1L << 20) - 1);
        z.sheet(2, 21, 1, 0);
        check.due("21 of these", z.box(1), -2);
        check.due("another v first", z.box(-1), -1);
        check.due("another v first", z.box(1000), -1);
        check.row("the row stays", z, (1L << 20) - 1);
        z.sheet(2, 11, 90, 1);
        check.due("above 999", z.box(999), 0);
        check.due("ten of eleven, of which two have 99", z.box(945), 2);
        check.row("ten of eleven, of which two have 99", z, (1L << 9) - 1);
    }

    private static void clean() {
        UnderTheSofa x = Check.in("....#");
        x.sheet(2, 2, 5, 0);
        long[][] due = {{1, 2}, {1, 6}, {0, 1}, {0, 1}};
        for (int k = 1; k <= 4; k++) {
            check.due("clean(" + k + ")", x.clean(k), 0);
            check.row("clean(" + k + ")", x, due[k - 1]);
        }
        check.due("more than there are", x.clean(5), -1);
        check.due("clean(0)", x.clean(0), -1);
        check.due("clean(-1)", x.clean(-1), -1);
        check.row("the row stays", x, 0, 1);
        x.sheet(3, 0, 0, 0);
        x.clean(4);
        check.row("no dust", x, 1, 1);
        x.sheet(2, 1, 1, 0);
        x.chair(3);
        x.clean(3);
        check.row("a spot with a chair is one of them", x, 1, 4);
        UnderTheSofa y = Check.in("....../....../....../....../....../......");
        y.sheet(2, 7, 1, 0);
        BigInteger upper = sets(29, 18);
        BigInteger lower = sets(36, 18);
        check.due("18 of 36", y.clean(18), 0);
        check.row("18 of 36", y, upper.divide(upper.gcd(lower)).longValue(), lower.divide(upper.gcd(lower)).longValue());
    }

    private static BigInteger sets(int n, int k) {
        return k == 0 ? BigInteger.ONE : sets(n - 1, k - 1).multiply(BigInteger.valueOf(n)).divide(BigInteger.valueOf(k));
    }

    private static void rests() {
        UnderTheSofa x = new UnderTheSofa();
        for (int v : new int[] {1, 5, 10, 99}) {
            check.due("rests(" + v + ")", x.rests(v), 2);
            check.row("rests(" + v + ")", x, 0, 1);
        }
        check.due("rests(0)", x.rests(0), -1);
        check.due("rests(100)", x.rests(100), -1);
        check.due("rests(-1)", x.rests(-1), -1);
        check.row("the row stays", x, 0, 1);
    }

    private static int seedWhoseFirstDrawIs(int draw) {
        return seedWhoseFirstDrawIs(draw, 0L);
    }

    /** R would have a sign if it were an int, for a least of 1 << 31. */
    private static int seedWhoseFirstDrawIs(int draw, long least) {
        for (int seed = 0; seed < 1000000; seed++) {
            long r = seed * 1103515245L + 12345L & 0xffffffffL;
            if (r >= least && r / 65536 % 8 == draw) {
                return seed;
            }
        }
        throw new IllegalStateException("no such seed");
    }

    private static void weeks() {
        UnderTheSofa x = Check.in("p..");
        x.sheet(2, 3, 5, 1);
        x.turn(1);
        for (int draw = 0; draw < 6; draw++) {
            check.due("a step", x.weeks(seedWhoseFirstDrawIs(draw), 1), 6);
            check.row("a step", x, 1, 12);
        }
        check.due("a turn", x.weeks(seedWhoseFirstDrawIs(6), 1), 0);
        check.row("a turn", x, 0, 18);
        check.due("a day", x.weeks(seedWhoseFirstDrawIs(7), 1), 0);
        check.row("a day", x, 0, 21);
        check.due("a day, R without sign", x.weeks(seedWhoseFirstDrawIs(7, 1L << 31), 1), 0);
        check.row("a day, R without sign", x, 0, 21);
        check.due("weeks(1, 0)", x.weeks(1, 0), -1);
        check.due("weeks(1, 61)", x.weeks(1, 61), -1);
        check.row("the row stays", x, 0, 21);
        x.weeks(-1, 60);
        check.due("nothing was done", x.machine(0), 0);
        check.due("nothing was done", x.machine(4), 0);
        check.due("nothing was done", x.count(4), 18);
        check.due("nothing was done", x.count(6), 0);
        x.steps(200);
        check.due("out", x.machine(2), 0);
        x.carry(0, 1);
        x.sheet(2, 3, 5, 1);
        check.due("current is left aside", x.weeks(seedWhoseFirstDrawIs(0), 1), 6);
    }

    /** Seeds are sought whose draws are a step, then 0 of 4 or not, then a step: the turn on the rug shows in where it is. */
    private static void weeksOnRugs() {
        for (int of4 = 0; of4 < 4; of4++) {
            int seed = seedWithDraws(of4);
            UnderTheSofa x = Check.in("..../.r../....");
            x.carry(4, 1);
            x.weeks(seed, 2);
            check.row("onto a rug, with " + of4 + " drawn", x, of4 == 0 ? 9 : 6, 0);
        }
    }

    private static int seedWithDraws(int of4) {
        for (int seed = 0; seed < 1000000; seed++) {
            int r = seed * 1103515245 + 12345;
            int first = (r >>> 16) % 8;
            r = r * 1103515245 + 12345;
            int second = (r >>> 16) % 4;
            r = r * 1103515245 + 12345;
            int third = (r >>> 16) % 8;
            if (first < 6 && second == of4 && third < 6) {
                return seed;
            }
        }
        throw new IllegalStateException("no such seed");
    }
}
