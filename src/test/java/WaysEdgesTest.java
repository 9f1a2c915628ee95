/** Promises 24 to 29, sentence by sentence: way, back, plug, doors, chairs, best. */
public final class WaysEdgesTest extends Edges {
    public static void main(String[] args) {
        WaysEdgesTest test = new WaysEdgesTest();
        test.way();
        test.back();
        test.plug();
        test.doors();
        test.chairs();
        test.best();
        test.bestOfEqualOnes();
        test.close(24, 29);
    }

    private void way() {
        edge(24, "The cheapest way from a SPOT to another one, or the same", check -> {
            UnderTheSofa x = in(".rrr./.....");
            check.due("round the rugs", x.way(0, 4), 6);
            check.due("the other way round", x.way(4, 0), 6);
            check.due("the same", x.way(7, 7), 0);
            check.row("the same", x, 7);
            check.due("the same on a rug", x.way(1, 1), 0);
            check.row("the same on a rug", x, 1);
            check.due("the machine need not be there", x.machine(0), 0);
        });
        edge(24, "(both FREE; else -2):", check -> {
            UnderTheSofa x = in("..#.");
            x.chair(1);
            check.due("from a chair", x.way(1, 0), -2);
            check.due("to a chair", x.way(0, 1), -2);
            check.due("from a chair to itself", x.way(1, 1), -2);
            check.due("from a wall", x.way(2, 3), -2);
            check.due("to a wall", x.way(3, 2), -2);
            check.due("from a wall to itself", x.way(2, 2), -2);
        });
        edge(24, "its COST;", check -> {
            check.due("bare", in("......").way(0, 5), 5);
            check.due("rugs", in("rrrrrr").way(0, 5), 10);
            check.due("from a rug", in("r.").way(0, 1), 2);
            check.due("to a rug", in(".r").way(0, 1), 1);
            check.due("a snake of rugs", in("rrrrrr/#####r/rrrrrr/r#####/rrrrrr/#####r").way(0, 35), 2 * 20);
            check.due("a longer one", in("r#rrr#/r#r#r#/r#r#rr/r#r##r/r#r#rr/rrr#r#").way(0, 34), 2 * 21);
        });
        edge(24, "the ROW: the SPOTS in turn, both too:", check -> {
            UnderTheSofa x = in("...");
            x.way(0, 2);
            check.row("up", x, 0, 1, 2);
            x.way(2, 0);
            check.row("down", x, 2, 1, 0);
            x.way(1, 2);
            check.row("neighbours", x, 1, 2);
            UnderTheSofa y = in("....../#####./....../.#####/....../#####.");
            y.way(0, 35);
            check.row("a long one", y, 0, 1, 2, 3, 4, 5, 11, 17, 16, 15, 14, 13, 12, 18, 24, 25, 26, 27, 28, 29, 35);
        });
        edge(24, "of as cheap ones the least row.", check -> {
            UnderTheSofa x = in(".../.../...");
            x.way(0, 8);
            check.row("from 0", x, 0, 1, 2, 5, 8);
            x.way(8, 0);
            check.row("from 8", x, 8, 5, 2, 1, 0);
            x.way(2, 6);
            check.row("from 2", x, 2, 1, 0, 3, 6);
            x.way(6, 2);
            check.row("from 6", x, 6, 3, 0, 1, 2);
            UnderTheSofa y = in(".rr./....");
            y.way(0, 3);
            check.row("fewer spots, as cheap", y, 0, 1, 2, 3);
            UnderTheSofa z = in("..../.rr.");
            z.way(4, 7);
            check.row("more spots, as cheap", z, 4, 0, 1, 2, 3, 7);
        });
        edge(24, "-2: none;", check -> {
            check.due("a wall between", in(".#.").way(0, 2), -2);
            UnderTheSofa x = in("...");
            x.carry(2, 0);
            x.chair(1);
            check.due("a chair between", x.way(2, 0), -2);
            check.due("aslant", in(".#/#.").way(0, 3), -2);
            check.due("over the edge", in("#.#/.#.").way(1, 3), -2);
        });
        edge(24, "NONE: none such.", check -> {
            UnderTheSofa x = in("..#");
            for (int spot : new int[] {-1, 3, 36, 64, Integer.MIN_VALUE, Integer.MAX_VALUE}) {
                check.due("from " + spot, x.way(spot, 0), NONE);
                check.due("to " + spot, x.way(0, spot), NONE);
                check.due("from a wall to " + spot, x.way(2, spot), NONE);
                check.due("from " + spot + " to a wall", x.way(spot, 2), NONE);
            }
            check.due("numbers of the row", x.count(9), 0);
        });
    }

    private void back() {
        edge(25, "The most STEPS (0 .. 200) that it can do from now on (as steps()),", check -> {
            UnderTheSofa x = in("p");
            for (int n : new int[] {1, 100, 199, 200, 201, 999}) {
                x.load(n);
                check.due("back() with " + n, x.back(), Math.min(n, 200));
            }
            check.due("out, at the plug", out("p", 0, 0).back(), 0);
            UnderTheSofa y = in("q");
            y.load(7);
            check.due("on a rug each costs 2", y.back(), 3);
        });
        edge(25, "so that CURRENT behind them is enough yet for the cheapest way to the PLUG: how many.", check -> {
            for (int n = 1; n < 13; n++) {
                UnderTheSofa x = in("p.r");
                x.load(n);
                x.turn(1);
                check.due("back() with " + n, x.back(), mostBack(x));
            }
            UnderTheSofa y = in("p..", 2, 1);
            check.due("of 100", y.back(), mostBack(y));
            UnderTheSofa z = in("p.../.##./....");
            z.load(7);
            z.turn(1);
            check.due("the cheapest way is not the one by which it came", z.back(), mostBack(z));
        });
        edge(25, "-2: with none of these it is;", check -> {
            UnderTheSofa x = in("p.....");
            x.load(4);
            x.carry(5, 1);
            check.due("too far", x.back(), -2);
            x.carry(4, 1);
            check.due("just near enough", x.back(), 0);
            x.chair(0);
            check.due("a chair on the plug", x.back(), -2);
            UnderTheSofa y = in("p#.", 2, 0);
            check.due("a wall between", y.back(), -2);
            UnderTheSofa z = in("p.r");
            z.load(2);
            z.carry(2, 3);
            check.due("not from a rug", z.back(), -2);
            z.carry(1, 1);
            check.due("but from a bare spot", z.back(), 0);
        });
        edge(25, "no PLUG.", check -> {
            check.due("no plug", in("...").back(), -2);
            check.due("no plug at first", new UnderTheSofa().back(), -2);
        });
    }

    /** Each number of steps is tried by steps() itself, and way() asked behind it. */
    private static int mostBack(UnderTheSofa x) {
        int most = -2;
        for (int n = 0; n <= 200; n++) {
            boolean all = x.steps(n) == n;
            int home = x.way(x.machine(0), x.count(5));
            if (all && home >= 0 && home <= x.machine(2)) {
                most = n;
            }
            x.undo();
        }
        return most;
    }

    private void plug() {
        edge(26, "The FREE SPOT at which the PLUG would be best:", check -> {
            check.due("the middle", in("...").plug(), 1);
            UnderTheSofa x = in(".....");
            x.carry(4, 0);
            x.chair(0);
            check.due("not a chair's", x.plug(), 2);
            check.due("not a wall's", in(".#./.../.#.").plug(), 4);
            check.due("the plug that there is does not matter", in("p..").plug(), 1);
        });
        edge(26, "the one for which the greatest COST of the cheapest way to it from any FREE SPOT", check -> {
            UnderTheSofa x = in("r..");
            x.plug();
            check.row("from a rug", x, 2);
            UnderTheSofa y = in("rrrrr");
            check.due("rugs", y.plug(), 2);
            check.row("rugs", y, 4);
            UnderTheSofa z = in("rr...");
            check.due("nearer to the rugs", z.plug(), 1);
            check.row("nearer to the rugs", z, 3);
            UnderTheSofa w = in(GREATEST);
            check.due("the greatest flat", w.plug(), 14);
            check.row("the greatest flat", w, 6);
        });
        edge(26, "(500, where there is none)", check -> {
            UnderTheSofa x = in("..#.");
            check.due("two rooms", x.plug(), 0);
            check.row("two rooms", x, 500);
            UnderTheSofa y = in("...");
            y.chair(1);
            check.due("a chair between", y.plug(), 0);
            check.row("a chair between", y, 500);
        });
        edge(26, "is the least; of equal ones the first: it;", check -> {
            check.due("two equal ones", in("..").plug(), 0);
            check.due("four equal ones", in("../..").plug(), 0);
            check.due("of two in the middle the first", in("....").plug(), 1);
            check.due("behind walls", in("##../##..").plug(), 2);
        });
        edge(26, "the ROW: that COST.", check -> {
            UnderTheSofa x = new UnderTheSofa();
            check.due("alone", x.plug(), 0);
            check.row("alone", x, 0);
            UnderTheSofa y = in("....");
            y.plug();
            check.row("four", y, 2);
        });
    }

    private void doors() {
        edge(27, "FREE SPOTS (neither where it is nor the PLUG),", check -> {
            UnderTheSofa x = in("p.", 1, 0);
            check.due("neighbours", x.doors(), 0);
            check.row("neighbours", x, 0);
            UnderTheSofa y = in("p...", 3, 0);
            check.due("neither end", y.doors(), 2);
            check.row("neither end", y, 2 + 4);
            UnderTheSofa z = in(".p.", 1, 0);
            check.due("at the plug", z.doors(), 0);
            check.row("at the plug", z, 0);
        });
        edge(27, "each of which all ways from where it is to the PLUG lead through:", check -> {
            UnderTheSofa x = in("p../.#./...", 8, 0);
            check.due("two ways", x.doors(), 0);
            x.chair(3);
            check.due("one way", x.doors(), 3);
            check.row("one way", x, 2 + 4 + 32);
            UnderTheSofa y = in("p./../.#/..", 7, 0);
            check.due("a door between two rooms", y.doors(), 3);
            check.row("a door between two rooms", y, 4 + 16 + 64);
            UnderTheSofa z = in("p....", 2, 0);
            check.due("none behind it", z.doors(), 1);
            check.row("none behind it", z, 2);
            UnderTheSofa v = in("../p#", 1, 0);
            check.due("the first spot", v.doors(), 1);
            check.row("the first spot", v, 1);
            UnderTheSofa last = in("#p/..", 2, 0);
            check.due("the last spot", last.doors(), 1);
            check.row("the last spot", last, 8);
            UnderTheSofa w = in("prr/.../rr.", 8, 0);
            check.due("a dear way is a way too", w.doors(), 0);
        });
        edge(27, "how many; the ROW: they (bits).", check -> {
            UnderTheSofa x = in("p...../#####./....../.#####/....../#####.", 35, 0);
            check.due("a snake", x.doors(), 19);
            long snake = 0x3eL | 1L << 11 | 0x3fL << 12 | 1L << 18 | 0x3fL << 24;
            check.row("a snake", x, snake);
        });
        edge(27, "-2: there is no way, no PLUG.", check -> {
            check.due("a wall between", in("p#.", 2, 0).doors(), -2);
            UnderTheSofa x = in("p..", 2, 0);
            x.chair(1);
            check.due("a chair between", x.doors(), -2);
            x.chair(1);
            x.chair(0);
            check.due("a chair on the plug", x.doors(), -2);
            check.due("no plug", in("...").doors(), -2);
            check.due("no plug at first", new UnderTheSofa().doors(), -2);
        });
    }

    private void chairs() {
        edge(28, "The CHAIR that, taken up, opens the most SPOTS", check -> {
            UnderTheSofa x = in("....../##.###", 2, 0);
            x.chair(1);
            x.chair(3);
            check.due("three spots rather than two", x.chairs(), 3);
            check.due("both stand yet", x.count(3), 2);
            check.due("nothing can be undone by it", x.count(8), 3);
        });
        edge(28, "(to which ways lead then from where it is, more than now);", check -> {
            UnderTheSofa x = in(".....", 0, 0);
            x.chair(1);
            x.chair(2);
            check.due("the one behind opens none", x.chairs(), 1);
            check.row("the one ahead opens its own spot alone", x, 1);
            x.chair(2);
            x.chairs();
            check.row("its own spot and those behind", x, 4);
            UnderTheSofa y = in("../..", 0, 0);
            y.chair(3);
            check.due("its own spot alone", y.chairs(), 3);
            check.row("its own spot alone", y, 1);
        });
        edge(28, "of equal ones the first: its SPOT;", check -> {
            UnderTheSofa x = in("...", 1, 0);
            x.chair(2);
            x.chair(0);
            check.due("two", x.chairs(), 0);
            UnderTheSofa y = in(".#..#.", 0, 0);
            y.chair(5);
            y.chair(2);
            check.due("two that open nothing", y.chairs(), 2);
            check.row("two that open nothing", y, 0);
        });
        edge(28, "the ROW: how many more.", check -> {
            UnderTheSofa x = in(GREATEST);
            x.chair(1);
            x.chair(6);
            check.due("shut in", x.chairs(), 1);
            check.row("shut in", x, 34);
        });
        edge(28, "-2: there are no CHAIRS.", check -> {
            UnderTheSofa x = in("...");
            check.due("none", x.chairs(), -2);
            x.chair(1);
            x.chair(1);
            check.due("none again", x.chairs(), -2);
            check.due("none at first", new UnderTheSofa().chairs(), -2);
        });
    }

    private void best() {
        edge(29, "The most DUST that can be had in n steps (0 .. 6),", check -> {
            UnderTheSofa x = in(GREATEST);
            x.sheet(2, 36, 1, 0);
            for (int n = 0; n <= 6; n++) {
                check.due("best(" + n + ")", x.best(n), n);
                check.due("steps", x.count(9), n);
            }
            x.sheet(2, 36, 1, 1);
            x.carry(14, 0);
            check.due("away from the first one found", x.best(6), 21 + 27 + 33 + 34 + 35 + 36);
            check.row("away from the first one found", x, 20, 26, 32, 33, 34, 35);
            UnderTheSofa first = in("..", 1, 0);
            first.sheet(2, 1, 5, 0);
            check.due("at the first spot alone", first.best(1), 5);
            check.row("at the first spot alone", first, 0);
            UnderTheSofa y = in("......", 0, 0);
            y.sheet(2, 6, -400, 99);
            check.due("five steps away, in four", y.best(4), 0);
            check.due("five steps away, in five", y.best(5), 95);
            UnderTheSofa z = in("....../#####.", 0, 0);
            z.sheet(2, 12, -1071, 99);
            check.due("six steps away, in five", z.best(5), 0);
            check.due("six steps away, in six", z.best(6), 18);
        });
        edge(29, "each to a neighbouring FREE SPOT (any, CURRENT left aside;", check -> {
            UnderTheSofa x = in(".#./...", 0, 1);
            x.sheet(2, 6, 1, 1);
            check.due("not through a wall, nor by its heading", x.best(3), 4 + 5 + 6);
            x.chair(4);
            check.due("not through a chair", x.best(6), 4);
            UnderTheSofa y = out("prrr", 0, 0);
            y.sheet(2, 4, 2, 0);
            check.due("out of current", y.best(3), 6);
        });
        edge(29, "each SPOT's DUST once;", check -> {
            UnderTheSofa x = in("..", 0, 0);
            x.sheet(2, 2, 5, 0);
            check.due("to and fro", x.best(6), 5);
            check.row("to and fro", x, 1);
            UnderTheSofa y = in(".../###", 1, 0);
            y.sheet(2, 3, 5, 1);
            check.due("both sides", y.best(3), 12);
            check.row("both sides", y, 0, 1, 2);
        });
        edge(29, "where it is now, not):", check -> {
            UnderTheSofa x = in("..", 0, 0);
            x.sheet(2, 1, 50, 0);
            check.due("its own dust", x.best(6), 0);
            check.row("its own dust", x);
            x.sheet(2, 2, 50, -45);
            check.due("nor when it comes back", x.best(2), 5);
            check.row("nor when it comes back", x, 1);
        });
        edge(29, "how much; the ROW: the SPOTS in turn (fewer, if it goes no farther:", check -> {
            UnderTheSofa x = in("....", 0, 0);
            x.sheet(2, 4, 3, 1);
            check.due("all", x.best(6), 4 + 5 + 6);
            check.row("all", x, 1, 2, 3);
            UnderTheSofa y = new UnderTheSofa();
            y.days(3);
            check.due("nowhere to go", y.best(6), 0);
            check.row("nowhere to go", y);
        });
        edge(29, "NONE: another n.", check -> {
            UnderTheSofa x = in("..");
            for (int n : new int[] {-1, 7, Integer.MIN_VALUE, Integer.MAX_VALUE}) {
                check.due("best(" + n + ")", x.best(n), NONE);
                check.due("numbers of the row", x.count(9), 0);
            }
        });
    }

    private void bestOfEqualOnes() {
        edge(29, "of as good ones the fewest steps,", check -> {
            UnderTheSofa x = in(".../.../...", 4, 0);
            x.sheet(2, 6, -45, 10);
            check.due("one step", x.best(6), 5);
            check.row("one step", x, 5);
            UnderTheSofa y = in("...../#####", 2, 0);
            y.sheet(2, 5, 8, -2);
            check.due("two steps to the left", y.best(3), 14);
            check.row("two steps to the left", y, 1, 0);
            UnderTheSofa z = in("....", 1, 0);
            z.sheet(2, 4, 0, 2);
            check.due("though a less row is longer", z.best(6), 4 + 6);
            check.row("though a less row is longer", z, 2, 3);
        });
        edge(29, "then the least row).", check -> {
            UnderTheSofa x = in(".../.../...", 4, 0);
            x.sheet(2, 9, 1, 0);
            int[][] due = {{}, {1}, {1, 0}, {1, 0, 3}, {1, 0, 3, 6}, {1, 0, 3, 6, 7}, {1, 0, 3, 6, 7, 8}};
            for (int n = 0; n <= 6; n++) {
                check.due("best(" + n + ")", x.best(n), n);
                long[] row = new long[n];
                for (int i = 0; i < n; i++) {
                    row[i] = due[n][i];
                }
                check.row("best(" + n + ")", x, row);
            }
            UnderTheSofa y = in("...", 1, 1);
            y.sheet(2, 3, 4, 0);
            y.best(1);
            check.row("to the left ahead of to the right", y, 0);
            UnderTheSofa z = in("../..", 1, 0);
            z.sheet(2, 4, -12, 7);
            z.best(2);
            check.row("the way to the left, then down", z, 3, 2);
        });
    }
}
