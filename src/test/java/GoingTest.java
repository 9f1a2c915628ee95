/** Promises 17 to 23: been, all, never, angle, meets, round, corner. */
public final class GoingTest {
    private static final Check check = new Check();
    /** It goes once round the wall in the middle in 12 steps. */
    private static final String RING = "p../.#./...";

    public static void main(String[] args) {
        been();
        allAndNever();
        angle();
        meets();
        round();
        corner();
        dustOnTheWay();
        check.close("GoingTest");
    }

    private static void been() {
        UnderTheSofa x = Check.in(RING);
        check.due("been(0)", x.been(0), 1);
        check.row("been(0)", x, 1, 0, 100);
        check.due("been(3)", x.been(3), 3);
        check.row("been(3)", x, 7, 2, 97);
        check.due("been(12)", x.been(12), 8);
        check.row("been(12)", x, 511 - 16, 0, 88);
        check.due("been(201)", x.been(201), -1);
        check.due("been(-1)", x.been(-1), -1);
        check.row("the row stays", x, 511 - 16, 0, 88);
        x.load(2);
        check.due("till it is out", x.been(200), 2);
        check.row("till it is out", x, 3, 1, 0);
        check.due("nothing was done", x.machine(2), 2);
        UnderTheSofa y = Check.in("rr");
        y.turn(1);
        y.been(2);
        check.row("rugs cost 2", y, 3, 1, 96);
    }

    private static void allAndNever() {
        UnderTheSofa x = Check.in(RING);
        check.due("all()", x.all(), 11);
        check.row("all()", x, 8);
        check.due("never()", x.never(), 0);
        check.row("never()", x, 0);
        x.load(1);
        check.due("current is left aside", x.all(), 11);
        x.chair(1);
        check.due("not in 999", x.all(), -2);
        check.due("never()", x.never(), 4);
        check.row("never()", x, 4 + 32 + 128 + 256);
        x.chair(3);
        check.due("shut in", x.all(), 0);
        check.row("shut in", x, 1);
        check.due("nothing was done", x.machine(4), 0);
        UnderTheSofa y = Check.in("p.#.");
        check.due("only those to which ways lead", y.all(), 2);
        check.row("only those to which ways lead", y, 2);
    }

    private static void angle() {
        UnderTheSofa x = Check.in(RING);
        Check.rule(x, "0");
        check.due("angle()", x.angle(), 1);
        check.row("angle()", x, 11, 11, 1000, 12);
        x.carry(0, 1);
        check.due("without the first bump", x.angle(), 1);
        check.row("without the first bump", x, 10, 10, 1000, 14);
        x.carry(0, 3);
        check.due("angle() from another heading", x.angle(), 3);
        check.row("angle() from another heading", x, 11, 12, 1000, 11);
        UnderTheSofa y = Check.in("..");
        y.turn(3);
        check.due("the turn of two", y.angle(), 2);
        check.row("the turn of two", y, 2, 3, 2, 3);
        UnderTheSofa z = Check.in("../..");
        z.chair(1);
        z.chair(2);
        check.due("equal ones", z.angle(), 1);
        check.row("equal ones", z, 0, 0, 0, 0);
    }

    private static void meets() {
        UnderTheSofa x = Check.in(RING);
        check.due("at the plug", x.meets(), 0);
        x.carry(8, 2);
        check.due("meets()", x.meets(), 6);
        x.steps(1);
        check.due("one step nearer", x.meets(), 5);
        x.chair(3);
        check.due("never", x.meets(), -2);
        check.due("no plug", Check.in("..").meets(), -2);
        UnderTheSofa y = Check.in("p..");
        y.load(1);
        y.carry(2, 3);
        check.due("current is left aside", y.meets(), 2);
        check.row("no row", y);
    }

    private static void round() {
        UnderTheSofa x = Check.in(RING);
        check.due("round()", x.round(), 12);
        check.row("round()", x, 4);
        UnderTheSofa y = Check.in("..");
        y.turn(1);
        Check.rule(y, "0");
        check.due("never again", y.round(), -2);
        check.row("no row", y);
        y.turn(1);
        check.due("at once", y.round(), 1);
        check.row("at once", y, 1);
        UnderTheSofa z = Check.in("...");
        z.turn(1);
        z.steps(1);
        check.due("the same heading too", z.round(), 8);
        check.row("the same heading too", z, 4);
        check.due("current is left aside", z.machine(2), 99);
    }

    private static void corner() {
        UnderTheSofa x = Check.in(RING);
        check.due("corner(12)", x.corner(12), 0);
        check.row("corner(12)", x, 2);
        check.due("corner(11)", x.corner(11), 2);
        check.row("corner(11)", x, 2);
        check.due("corner(1)", x.corner(1), 0);
        check.row("corner(1)", x, 1);
        x.turn(1);
        check.due("where it is now does not count", x.corner(1), 1);
        check.row("where it is now does not count", x, 1);
        check.due("corner(0)", x.corner(0), -1);
        check.due("corner(1000)", x.corner(1000), -1);
        check.row("the row stays", x, 1);
        check.due("corner(999)", new UnderTheSofa().corner(999), 0);
    }

    /** The rule may look at dust, which is had on the way in questions too. */
    private static void dustOnTheWay() {
        UnderTheSofa x = Check.in("...");
        Check.rule(x, "2*(d>0)");
        x.days(1);
        x.turn(1);
        x.steps(2);
        x.days(1);
        x.been(3);
        check.row("it turns on its dust, then has the other's", x, 7, 0, 95);
        check.due("the dust lies there yet", x.count(4), 4);
        check.due("it comes to rest at the other end", x.corner(20), 0);
        check.row("it comes to rest at the other end", x, 18);
    }
}
