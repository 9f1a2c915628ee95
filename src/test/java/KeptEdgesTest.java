import java.util.List;

/** Promises 42 to 45, sentence by sentence: keep, again, count, row. */
public final class KeptEdgesTest extends Edges {
    public static void main(String[] args) {
        KeptEdgesTest test = new KeptEdgesTest();
        test.keep();
        test.again();
        test.count();
        test.row();
        test.close(42, 45);
    }

    private static UnderTheSofa lived() {
        UnderTheSofa x = in("p..r");
        x.days(3);
        x.turn(1);
        x.steps(2);
        x.chair(3);
        x.steps(2);
        return x;
    }

    private void keep() {
        edge(42, "CHAIRS, DUST, THE MACHINE, DAY are kept under a number 0 .. 2: true.", check -> {
            for (int i = 0; i <= 2; i++) {
                UnderTheSofa x = lived();
                check.due("keep(" + i + ")", x.keep(i), true);
                check.due("nothing is undone by it", x.count(8), 5);
                x.again(i);
                List<Long> kept = seen(x);
                x.chair(3);
                x.days(4);
                x.turn(1);
                x.steps(9);
                check.due("all is changed", seen(x).equals(kept), false);
                check.due("again(" + i + ")", x.again(i), true);
                UnderTheSofa y = lived();
                y.keep(0);
                y.again(0);
                x.looks();
                y.looks();
                check.due("all is as it was kept", seen(x).equals(seen(y)), true);
            }
            UnderTheSofa z = in("..");
            for (int i = 0; i <= 2; i++) {
                z.days(1);
                z.keep(i);
            }
            z.days(1);
            z.keep(1);
            int[] days = {1, 4, 3};
            for (int i = 0; i <= 2; i++) {
                z.again(i);
                check.due("each by itself, the latest of each: " + i, z.count(6), days[i]);
            }
        });
        edge(42, "Refused: others.", check -> {
            UnderTheSofa x = in("..");
            for (int i : new int[] {-1, 3, 32, Integer.MIN_VALUE, Integer.MAX_VALUE}) {
                check.due("keep(" + i + ")", x.keep(i), false);
                check.due("again(" + i + ")", x.again(i), false);
            }
            for (int i = 0; i <= 2; i++) {
                check.due("nothing was kept under " + i, x.again(i), false);
            }
        });
    }

    private void again() {
        edge(43, "They are as they were kept under a number.", check -> {
            UnderTheSofa x = lived();
            x.keep(2);
            rule(x, "3");
            x.felt(1);
            x.chair(3);
            x.days(9);
            x.steps(4);
            check.due("again(2)", x.again(2), true);
            int[] machine = {2, 3, 96, 6, 4, 2};
            for (int what = 0; what < machine.length; what++) {
                check.due("machine(" + what + ")", x.machine(what), machine[what]);
            }
            check.due("a chair", x.spot(3, 1), 1);
            int[] dust = {3, 0, 0, 6};
            for (int spot = 0; spot < 4; spot++) {
                check.due("dust of " + spot, x.spot(spot, 2), dust[spot]);
            }
            check.due("day", x.count(6), 3);
            check.due("the rule stays", x.machine(6), 3);
            check.due("what was felt stays", x.count(7), 1);
            x.days(5);
            check.due("again(2) once more", x.again(2), true);
            check.due("day", x.count(6), 3);
            x.days(1);
            x.undo();
            check.due("undo() leaves what is kept", x.again(2), true);
        });
        edge(43, "Refused: nothing kept.", check -> {
            UnderTheSofa x = lived();
            x.keep(1);
            List<Long> ahead = seen(x);
            for (int i : new int[] {0, 2, 3, 4, -1, 31, 32, 33, 63, Integer.MIN_VALUE, Integer.MAX_VALUE}) {
                check.due("again(" + i + ")", x.again(i), false);
            }
            check.due("nothing changed", seen(x).equals(ahead), true);
            check.due("what can be undone", x.count(8), 5);
            flat(x, "..");
            check.due("a new flat has nothing kept", x.again(1), false);
        });
    }

    private void count() {
        edge(44, "What 0: ROWS, 1: COLUMNS, 2: SPOTS that are no WALL,", check -> {
            UnderTheSofa x = in("..#/rp.");
            int[] due = {2, 3, 5};
            for (int what = 0; what < due.length; what++) {
                check.due("count(" + what + ")", x.count(what), due[what]);
            }
        });
        edge(44, "3: CHAIRS, 4: DUST of all,", check -> {
            UnderTheSofa x = in("..#/rp.");
            check.due("no chairs", x.count(3), 0);
            check.due("no dust", x.count(4), 0);
            x.chair(0);
            x.chair(3);
            x.days(1);
            check.due("chairs", x.count(3), 2);
            check.due("dust, under chairs too", x.count(4), 6);
            UnderTheSofa y = in(GREATEST);
            y.sheet(2, 36, 99, 0);
            check.due("the most", y.count(4), 36 * 99);
        });
        edge(44, "5: the PLUG's SPOT (NONE),", check -> {
            check.due("p", in("..#/rp.").count(5), 4);
            check.due("q at 0", in("q").count(5), 0);
            check.due("none", in("..").count(5), NONE);
            UnderTheSofa x = in("p.");
            flat(x, "..");
            check.due("none behind one", x.count(5), NONE);
        });
        edge(44, "6: DAY, 7: things that were felt, 8: what can be undone,", check -> {
            UnderTheSofa x = in("..");
            for (int what = 6; what <= 8; what++) {
                check.due("count(" + what + ")", x.count(what), 0);
            }
            x.days(7);
            x.days(1);
            x.turn(1);
            x.felt(0);
            x.swung(1);
            check.due("day", x.count(6), 8);
            check.due("felt", x.count(7), 2);
            check.due("undone", x.count(8), 3);
        });
        edge(44, "9: numbers of the ROW, 10: signs of THE TEXT.", check -> {
            UnderTheSofa x = in("......");
            check.due("no numbers", x.count(9), 0);
            check.due("no signs", x.count(10), 0);
            x.way(0, 5);
            check.due("six numbers", x.count(9), 6);
            x.best(0);
            check.due("none", x.count(9), 0);
            x.angle();
            check.due("four", x.count(9), 4);
            for (int i = 1; i <= 20; i++) {
                x.sign(0);
                check.due("signs", x.count(10), 4 * i);
            }
            x.end(79);
            check.due("signs", x.count(10), 79);
        });
        edge(44, "-100 for another what.", check -> {
            UnderTheSofa x = in("..");
            for (int what : new int[] {-1, 11, 12, Integer.MIN_VALUE, Integer.MAX_VALUE}) {
                check.due("count(" + what + ")", x.count(what), -100);
            }
        });
    }

    private void row() {
        edge(45, "Number i of the ROW.", check -> {
            UnderTheSofa x = in("....../#####./....../.#####/....../#####.");
            x.way(35, 0);
            int[] due = {35, 29, 28, 27, 26, 25, 24, 18, 12, 13, 14, 15, 16, 17, 11, 5, 4, 3, 2, 1, 0};
            check.due("numbers", x.count(9), due.length);
            for (int i = 0; i < due.length; i++) {
                check.due("row(" + i + ")", x.row(i), due[i]);
            }
            UnderTheSofa y = in(GREATEST);
            y.held();
            check.due("a number beyond the ints", y.row(0), (1L << 36) - 1);
        });
        edge(45, "NoSuchElementException: none such.", check -> {
            UnderTheSofa x = in("...");
            check.throwsNone("row(0) at first", () -> x.row(0));
            x.way(0, 2);
            for (int i : new int[] {-1, 3, 4, 36, 37, 64, Integer.MIN_VALUE, Integer.MAX_VALUE}) {
                check.throwsNone("row(" + i + ") of three", () -> x.row(i));
            }
            x.way(1, 1);
            check.throwsNone("row(1) of one, behind three", () -> x.row(1));
            x.best(0);
            check.throwsNone("row(0) of none, behind one", () -> x.row(0));
        });
    }
}
