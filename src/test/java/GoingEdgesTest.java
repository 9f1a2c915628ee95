/** Promises 17 to 23, sentence by sentence: been, all, never, angle, meets, round, corner. */
public final class GoingEdgesTest extends Edges {
    /** It goes once round the wall in the middle in 12 steps. */
    private static final String RING = "p../.#./...";
    /** By the rule behind it, from 10 on downwards, it comes to the plug at 0 last of all, in 716 steps. */
    private static final String LONG = "q#r.#r/..#.r./rrr.r./#rr.../..r..#/r#...r";
    private static final String LONG_RULE = "2+(b+r)/7";

    public static void main(String[] args) {
        GoingEdgesTest test = new GoingEdgesTest();
        test.been();
        test.all();
        test.never();
        test.angle();
        test.meets();
        test.round();
        test.corner();
        test.close(17, 23);
    }

    private static UnderTheSofa longOne() {
        UnderTheSofa x = in(LONG, 10, 2);
        rule(x, LONG_RULE);
        return x;
    }

    private void been() {
        edge(17, "SPOTS on which it has been in n STEPS (0 .. 200),", check -> {
            UnderTheSofa x = in(RING);
            x.load(999);
            check.due("been(4)", x.been(4), 3);
            check.due("been(5)", x.been(5), 4);
            check.due("been(11)", x.been(11), 8);
            check.due("been(199)", x.been(199), 8);
            check.row("been(199)", x, 511 - 16, 8, 800);
            check.due("been(200)", x.been(200), 8);
            check.row("been(200)", x, 511 - 16, 7, 799);
            UnderTheSofa y = in("...", 0, 1);
            rule(y, "0");
            check.due("it strikes on and on", y.been(200), 3);
        });
        edge(17, "where it is now, too", check -> {
            UnderTheSofa x = in("...", 1, 1);
            check.due("been(0)", x.been(0), 1);
            check.row("been(0)", x, 2, 1, 100);
            check.due("been(1)", x.been(1), 2);
            check.row("been(1)", x, 2 + 4, 2, 99);
        });
        edge(17, "(till it is OUT):", check -> {
            UnderTheSofa x = in("p.....");
            x.load(3);
            x.turn(1);
            check.due("three steps", x.been(200), 4);
            check.row("three steps", x, 15, 3, 0);
            UnderTheSofa y = in("qrrrr");
            y.load(5);
            y.turn(1);
            check.due("two steps on rugs", y.been(200), 3);
            check.row("two steps on rugs", y, 7, 2, 1);
            UnderTheSofa z = out("p.", 0, 1);
            check.due("out", z.been(200), 1);
            check.row("out", z, 1, 0, 0);
        });
        edge(17, "how many; the ROW: they (bits), where it is then, CURRENT then.", check -> {
            UnderTheSofa x = in(RING);
            check.due("how many", x.been(6), 5);
            check.row("the row", x, 1 + 2 + 4 + 32 + 256, 8, 94);
            UnderTheSofa y = in(GREATEST, 35, 3);
            check.due("the last row", y.been(5), 6);
            check.row("the last row", y, 63L << 30, 30, 95);
        });
        edge(17, "NONE: another n.", check -> {
            UnderTheSofa x = in(RING);
            for (int n : new int[] {-1, 201, Integer.MIN_VALUE, Integer.MAX_VALUE}) {
                check.due("been(" + n + ")", x.been(n), NONE);
                check.due("numbers of the row", x.count(9), 0);
            }
        });
    }

    private void all() {
        edge(18, "In how many STEPS (0 .. 999;", check -> {
            check.due("at once", new UnderTheSofa().all(), 0);
            check.due("one step", in("..", 0, 1).all(), 1);
            check.due("round a wall", in(RING).all(), 11);
            check.due("a long time", longOne().all(), 716);
        });
        edge(18, "CURRENT left aside)", check -> {
            UnderTheSofa x = out("p....", 0, 1);
            check.due("out of current", x.all(), 4);
            check.due("on rugs", in("rrrrrr", 0, 1).all(), 5);
            check.due("more than its current", longOne().all() > 100, true);
        });
        edge(18, "it has been on all SPOTS to which ways lead from where it is: how many;", check -> {
            UnderTheSofa x = in("..#..", 0, 1);
            check.due("no way leads behind the wall", x.all(), 1);
            UnderTheSofa y = in(".....", 0, 1);
            y.chair(3);
            check.due("nor behind a chair", y.all(), 2);
            UnderTheSofa z = in(".#/#.");
            check.due("nor aslant", z.all(), 0);
        });
        edge(18, "the ROW: how many such SPOTS there are.", check -> {
            UnderTheSofa x = in("..#..", 0, 1);
            x.all();
            check.row("behind a wall", x, 2);
            UnderTheSofa y = in(RING);
            y.been(3);
            y.all();
            check.row("a ring, told anew", y, 8);
            UnderTheSofa z = new UnderTheSofa();
            z.all();
            check.row("one", z, 1);
        });
        edge(18, "-2: not in 999.", check -> {
            UnderTheSofa x = in("...", 1, 1);
            rule(x, "0");
            check.due("it strikes on and on", x.all(), -2);
            check.due("it goes round along the walls", in(".../.../...").all(), -2);
        });
    }

    private void never() {
        edge(19, "SPOTS to which ways lead from where it is,", check -> {
            UnderTheSofa x = in("...#..", 1, 1);
            rule(x, "0");
            check.due("not behind the wall", x.never(), 1);
            check.row("not behind the wall", x, 1);
            x.chair(0);
            check.due("not under a chair", x.never(), 0);
            check.row("not under a chair", x, 0);
        });
        edge(19, "on which it has not been in 999 STEPS (CURRENT left aside):", check -> {
            check.due("it has been there in 716", longOne().never(), 0);
            UnderTheSofa x = out("p....", 0, 1);
            check.due("out of current", x.never(), 0);
            UnderTheSofa y = in("...", 2, 1);
            rule(y, "0");
            check.due("where it is now it has been", y.never(), 2);
            check.row("where it is now it has been", y, 3);
        });
        edge(19, "how many; the ROW: they (bits).", check -> {
            UnderTheSofa x = in(GREATEST);
            check.due("the middle", x.never(), 16);
            long middle = 0;
            for (int r = 1; r <= 4; r++) {
                middle |= 15L << r * 6 + 1;
            }
            check.row("the middle", x, middle);
            UnderTheSofa y = in(RING);
            check.due("none", y.never(), 0);
            check.row("none", y, 0);
        });
    }

    private void angle() {
        edge(20, "With a TURN that is always the same, 1 .. 3, instead of THE RULE:", check -> {
            UnderTheSofa x = in("..", 0, 3);
            rule(x, "0");
            x.angle();
            check.row("by each", x, 2, 3, 2, 3);
            rule(x, "b*d+s");
            x.angle();
            check.row("another rule changes nothing", x, 2, 3, 2, 3);
            check.due("the rule stays", x.machine(6), 0);
        });
        edge(20, "the one by which all() is the least", check -> {
            check.due("one", in(RING).angle(), 1);
            check.due("two", in("..", 0, 3).angle(), 2);
            check.due("three", in(RING, 0, 3).angle(), 3);
        });
        edge(20, "(1000, if not in 999);", check -> {
            UnderTheSofa x = in(".../.../...");
            check.due("none of them", x.angle(), 1);
            check.row("none of them", x, 1000, 1000, 1000, 1000);
            UnderTheSofa y = in(RING);
            y.angle();
            check.row("all but two", y, 11, 11, 1000, 12);
        });
        edge(20, "of equal ones the least: it;", check -> {
            check.due("three equal ones", new UnderTheSofa().angle(), 1);
            check.due("three that are not", in(".../.../...").angle(), 1);
            UnderTheSofa x = in("...", 1, 0);
            check.due("one and three are equal", x.angle(), 1);
            check.row("one and three are equal", x, 6, 6, 1000, 6);
        });
        edge(20, "the ROW: how many STEPS by it (1000: not), by each of 1, 2, 3.", check -> {
            UnderTheSofa x = in(RING, 0, 3);
            x.angle();
            check.row("three", x, 11, 12, 1000, 11);
            UnderTheSofa y = new UnderTheSofa();
            y.angle();
            check.row("at once", y, 0, 0, 0, 0);
        });
    }

    private void meets() {
        edge(21, "In how many STEPS (0 .. 999) it is at the PLUG,", check -> {
            check.due("at once", in(RING).meets(), 0);
            check.due("one", in("p.", 1, 3).meets(), 1);
            check.due("behind two bumps", in("p.", 1, 1).meets(), 3);
            check.due("a long time", longOne().meets(), 716);
            UnderTheSofa x = longOne();
            x.steps(16);
            check.due("nearer", x.meets(), 700);
            UnderTheSofa y = in("q.", 1, 3);
            check.due("a plug on a rug", y.meets(), 1);
        });
        edge(21, "CURRENT left aside: how many.", check -> {
            check.due("out of current", out("p....", 4, 3).meets(), 4);
            check.due("on rugs", in("qrrrr", 4, 3).meets(), 4);
        });
        edge(21, "-2: not in 999, no PLUG.", check -> {
            UnderTheSofa x = in("p..", 1, 1);
            rule(x, "0");
            check.due("it strikes on and on", x.meets(), -2);
            UnderTheSofa y = in("p..", 1, 3);
            y.chair(0);
            check.due("a chair on the plug", y.meets(), -2);
            check.due("a wall between", in("p#.", 2, 3).meets(), -2);
            check.due("no plug", in("...").meets(), -2);
            check.due("no plug at first", new UnderTheSofa().meets(), -2);
        });
    }

    private void round() {
        edge(22, "In how many STEPS (1 .. 999;", check -> {
            UnderTheSofa x = new UnderTheSofa();
            rule(x, "0");
            check.due("one", x.round(), 1);
            rule(x, "2");
            check.due("two", x.round(), 2);
            rule(x, "3");
            check.due("four", x.round(), 4);
            check.due("round a wall", in(RING).round(), 12);
            UnderTheSofa y = in("q.r#.r/....r./#.rrrr/rr.r.#/...rr./r.#r.r");
            rule(y, "2+(b=7)*(r*2-1)");
            y.load(999);
            y.turn(3);
            y.steps(51);
            check.due("a long time", y.round(), 784);
        });
        edge(22, "CURRENT left aside)", check -> {
            check.due("out of current", out("...", 0, 1).round(), 8);
            check.due("on rugs", in("rrr", 0, 1).round(), 8);
        });
        edge(22, "it is first again at the SPOT where it is now, with the same HEADING: how many;", check -> {
            UnderTheSofa x = in("...", 1, 1);
            check.due("it comes through with another heading ahead of that", x.round(), 8);
            UnderTheSofa y = in("...", 2, 1);
            check.due("it comes by its heading at another spot ahead of that", y.round(), 8);
            UnderTheSofa z = in("..", 0, 1);
            rule(z, "2+b/2");
            check.due("by its first time", z.round(), 4);
        });
        edge(22, "the ROW: how often it struck in these.", check -> {
            UnderTheSofa x = in(RING);
            x.steps(3);
            x.round();
            check.row("not those ahead of it", x, 4);
            UnderTheSofa y = new UnderTheSofa();
            y.round();
            check.row("all of them", y, 4);
        });
        edge(22, "-2: not in 999.", check -> {
            UnderTheSofa x = in("..", 0, 1);
            rule(x, "0");
            check.due("it strikes on and on elsewhere", x.round(), -2);
            check.due("it comes to the walls and stays there", in(".../.../...", 4, 0).round(), -2);
        });
    }

    private void corner() {
        edge(23, "The SPOT on which it is the most often behind the next n STEPS (1 .. 999, one by one;", check -> {
            UnderTheSofa x = in("...", 0, 1);
            check.due("corner(1)", x.corner(1), 1);
            check.row("where it is now does not count", x, 1);
            check.due("corner(3)", x.corner(3), 2);
            check.row("corner(3)", x, 2);
            check.due("corner(8)", x.corner(8), 0);
            check.row("corner(8)", x, 3);
            check.due("corner(998)", x.corner(998), 2);
            check.row("corner(998)", x, 3 * 125);
            check.due("corner(999)", x.corner(999), 2);
            check.row("corner(999)", x, 3 * 125);
            UnderTheSofa y = new UnderTheSofa();
            check.due("alone", y.corner(999), 0);
            check.row("alone", y, 999);
        });
        edge(23, "CURRENT left aside):", check -> {
            UnderTheSofa x = out("...", 0, 1);
            check.due("out of current", x.corner(2), 1);
            UnderTheSofa y = in("rr", 0, 1);
            check.due("on rugs", y.corner(999), 1);
            check.row("on rugs", y, 3 * 167);
        });
        edge(23, "it, of equal ones the first;", check -> {
            UnderTheSofa x = in("...", 2, 3);
            check.due("two by one each", x.corner(2), 0);
            check.row("two by one each", x, 1);
            UnderTheSofa y = in("...", 0, 1);
            check.due("two by one each, from the other end", y.corner(2), 1);
            check.row("two by one each, from the other end", y, 1);
        });
        edge(23, "the ROW: how often.", check -> {
            UnderTheSofa x = in(".");
            for (int n : new int[] {1, 2, 500, 999}) {
                x.corner(n);
                check.row("corner(" + n + ")", x, n);
            }
        });
        edge(23, "NONE: another n.", check -> {
            UnderTheSofa x = in("..");
            for (int n : new int[] {0, -1, 1000, Integer.MIN_VALUE, Integer.MAX_VALUE}) {
                check.due("corner(" + n + ")", x.corner(n), NONE);
                check.due("numbers of the row", x.count(9), 0);
            }
        });
    }
}
