import java.util.NoSuchElementException;

/** Promises 42 to 45: keep, again, count, row. */
public final class KeptTest {
    private static final Check check = new Check();

    public static void main(String[] args) {
        keepAndAgain();
        counts();
        rows();
        check.close("KeptTest");
    }

    private static void keepAndAgain() {
        UnderTheSofa x = Check.in("p..r");
        for (int i = -1; i <= 3; i++) {
            check.due("nothing kept under " + i, x.again(i), false);
        }
        check.due("keep(-1)", x.keep(-1), false);
        check.due("keep(3)", x.keep(3), false);
        check.due("keep(0)", x.keep(0), true);
        x.days(2);
        x.turn(1);
        x.steps(3);
        x.chair(2);
        x.felt(0);
        Check.rule(x, "2");
        check.due("keep(2)", x.keep(2), true);
        x.days(1);
        x.chair(2);
        x.steps(2);
        check.due("again(2)", x.again(2), true);
        int[] machine = {3, 1, 97, 8, 3, 0, 2, -1};
        for (int what = 0; what < machine.length; what++) {
            check.due("as kept, machine(" + what + ")", x.machine(what), machine[what]);
        }
        check.due("chairs", x.count(3), 1);
        check.due("dust", x.count(4), 2);
        check.due("day", x.count(6), 2);
        check.due("what was felt stays", x.count(7), 1);
        check.due("nothing can be undone", x.count(8), 0);
        check.due("again(0)", x.again(0), true);
        check.due("chairs", x.count(3), 0);
        check.due("day", x.count(6), 0);
        check.due("spot", x.machine(0), 0);
        check.due("current", x.machine(2), 100);
        check.due("the rule stays", x.machine(6), 2);
        check.due("nothing under 1", x.again(1), false);
        check.due("again(2) once more", x.again(2), true);
        check.due("day", x.count(6), 2);
        x.days(1);
        check.due("what was kept is not changed by days", x.again(2), true);
        check.due("day", x.count(6), 2);
        x.days(5);
        x.keep(2);
        x.again(0);
        x.again(2);
        check.due("kept anew", x.count(6), 7);
        x.turn(1);
        x.undo();
        x.turn(1);
        x.keep(1);
        check.due("keep() forgets nothing", x.count(8), 1);
        check.due("keep() is not undone", x.undo(), 0);
        check.due("it is kept yet", x.again(1), true);
    }

    private static void counts() {
        UnderTheSofa x = Check.in("..#/rp.");
        x.days(3);
        x.chair(0);
        x.chair(5);
        x.felt(1);
        x.been(3);
        x.sign(0);
        int[] due = {2, 3, 5, 2, 3 * 6, 4, 3, 1, 3, 3, 4};
        for (int what = 0; what < due.length; what++) {
            check.due("count(" + what + ")", x.count(what), due[what]);
        }
        for (int what : new int[] {-1, 11, Integer.MIN_VALUE, Integer.MAX_VALUE}) {
            check.due("count(" + what + ")", x.count(what), -100);
        }
    }

    private static void rows() {
        UnderTheSofa x = Check.in("....../....../....../....../....../......");
        check.row("none at first", x);
        x.way(0, 35);
        check.row("a way", x, 0, 1, 2, 3, 4, 5, 11, 17, 23, 29, 35);
        x.corner(5);
        check.due("the last one told", x.count(9), 1);
        x.undo();
        x.turn(1);
        x.count(3);
        x.meets();
        x.back();
        x.sheet(2, 3, 3, 3);
        x.keep(1);
        check.row("other calls leave it", x, 1);
        for (int i : new int[] {Integer.MIN_VALUE, -1, 1, 36, Integer.MAX_VALUE}) {
            int thrown = 0;
            try {
                x.row(i);
            } catch (NoSuchElementException e) {
                thrown = 1;
            }
            check.due("row(" + i + ") throws", thrown, 1);
        }
        UnderTheSofa y = Check.in("....../#####./....../.#####/....../#####.");
        y.way(0, 35);
        check.due("a long way", y.count(9), 21);
    }
}
