/** Promises 24 to 29: way, back, plug, doors, chairs, best. */
public final class WaysTest {
    private static final Check check = new Check();

    public static void main(String[] args) {
        ways();
        waysThatAreNone();
        back();
        plug();
        doors();
        chairs();
        best();
        bestOfEqualOnes();
        check.close("WaysTest");
    }

    private static void ways() {
        UnderTheSofa x = Check.in("p.r");
        check.due("from a rug", x.way(2, 0), 3);
        check.row("from a rug", x, 2, 1, 0);
        check.due("to a rug", x.way(0, 2), 2);
        check.row("to a rug", x, 0, 1, 2);
        check.due("to itself", x.way(2, 2), 0);
        check.row("to itself", x, 2);
        UnderTheSofa y = Check.in(".../.../...");
        check.due("the least row", y.way(0, 8), 4);
        check.row("the least row", y, 0, 1, 2, 5, 8);
        check.due("the least row back", y.way(8, 0), 4);
        check.row("the least row back", y, 8, 5, 2, 1, 0);
        check.due("the least row across", y.way(2, 6), 4);
        check.row("the least row across", y, 2, 1, 0, 3, 6);
        UnderTheSofa z = Check.in(".rr./....");
        check.due("as cheap, fewer steps", z.way(0, 3), 5);
        check.row("as cheap, fewer steps", z, 0, 1, 2, 3);
        check.due("as cheap back", z.way(3, 0), 5);
        check.row("as cheap back", z, 3, 2, 1, 0);
        UnderTheSofa w = Check.in(".rrr./.....");
        check.due("round the rugs", w.way(0, 4), 6);
        check.row("round the rugs", w, 0, 5, 6, 7, 8, 9, 4);
        w.chair(7);
        check.due("over one rug", w.way(0, 4), 7);
        check.row("over one rug", w, 0, 1, 2, 3, 4);
        UnderTheSofa v = Check.in("......");
        v.way(0, 5);
        check.due("no way is taken", v.machine(0), 0);
        UnderTheSofa snake = Check.in("rrrrrr/#####r/rrrrrr/r#####/rrrrrr/#####r");
        check.due("the longest", snake.way(0, 35), 2 * 20);
    }

    private static void waysThatAreNone() {
        UnderTheSofa x = Check.in("p.#.");
        check.due("a wall between", x.way(0, 3), -2);
        check.due("to a wall", x.way(0, 2), -2);
        check.due("from a wall to itself", x.way(2, 2), -2);
        check.due("none such first", x.way(2, 4), -1);
        check.due("none such first", x.way(-1, 2), -1);
        x.chair(1);
        check.due("to a chair", x.way(0, 1), -2);
        check.due("from a chair", x.way(1, 0), -2);
        check.row("no row", x);
    }

    private static void back() {
        int[] loads = {1, 2, 3, 4, 5, 6, 10};
        int[] due = {0, 1, 1, 2, 3, 6, 9};
        for (int i = 0; i < loads.length; i++) {
            UnderTheSofa x = Check.in("p..");
            x.turn(1);
            x.load(loads[i]);
            check.due("back() with " + loads[i], x.back(), due[i]);
            check.due("nothing was done", x.machine(2), loads[i]);
        }
        UnderTheSofa x = Check.in("p.....");
        x.load(4);
        x.carry(5, 1);
        check.due("with none", x.back(), -2);
        x.carry(0, 0);
        x.load(5);
        x.carry(5, 1);
        check.due("just enough", x.back(), 0);
        x.carry(5, 3);
        check.due("it goes home by itself", x.back(), 5);
        x.chair(0);
        check.due("a chair on the plug", x.back(), -2);
        check.due("no plug", Check.in("..").back(), -2);
        UnderTheSofa y = Check.in("p");
        y.load(999);
        check.due("200 at most", y.back(), 200);
        check.row("no row", y);
    }

    private static void plug() {
        UnderTheSofa x = Check.in("...");
        check.due("the middle", x.plug(), 1);
        check.row("the middle", x, 1);
        x.carry(1, 0);
        x.chair(0);
        check.due("a chair", x.plug(), 1);
        check.row("a chair", x, 1);
        UnderTheSofa y = Check.in("r..");
        check.due("of equal ones the first", y.plug(), 0);
        check.row("of equal ones the first", y, 2);
        UnderTheSofa z = Check.in("..r");
        check.due("each way costs from where it begins", z.plug(), 1);
        check.row("each way costs from where it begins", z, 2);
        UnderTheSofa w = Check.in("#.#.");
        check.due("no way", w.plug(), 1);
        check.row("no way", w, 500);
        check.due("alone", new UnderTheSofa().plug(), 0);
    }

    private static void doors() {
        UnderTheSofa x = Check.in("p....");
        check.due("at the plug", x.doors(), 0);
        check.row("at the plug", x, 0);
        x.carry(4, 0);
        check.due("a corridor", x.doors(), 3);
        check.row("a corridor", x, 2 + 4 + 8);
        x.chair(2);
        check.due("no way", x.doors(), -2);
        x.chair(2);
        x.chair(0);
        check.due("a chair on the plug", x.doors(), -2);
        check.due("no plug", Check.in("..").doors(), -2);
        UnderTheSofa y = Check.in("p../.#./...");
        y.carry(8, 0);
        check.due("two ways", y.doors(), 0);
        check.row("two ways", y, 0);
        y.chair(7);
        check.due("one way", y.doors(), 3);
        check.row("one way", y, 2 + 4 + 32);
        UnderTheSofa z = Check.in("..#p./.....");
        z.carry(0, 0);
        check.due("rooms beside a door", z.doors(), 3);
        check.row("rooms beside a door", z, 64 + 128 + 256);
    }

    private static void chairs() {
        UnderTheSofa x = Check.in("p....");
        check.due("no chairs", x.chairs(), -2);
        x.chair(3);
        x.chair(1);
        check.due("the nearer one", x.chairs(), 1);
        check.row("the nearer one", x, 2);
        UnderTheSofa y = Check.in(".p.");
        y.chair(2);
        y.chair(0);
        check.due("equal ones", y.chairs(), 0);
        check.row("equal ones", y, 1);
        UnderTheSofa z = Check.in("p#..");
        z.chair(3);
        check.due("it opens none", z.chairs(), 3);
        check.row("it opens none", z, 0);
        check.due("no chair was taken up", z.count(3), 1);
    }

    private static void best() {
        UnderTheSofa x = Check.in(".....");
        x.carry(2, 0);
        x.sheet(2, 5, 1, 1);
        check.due("best(0)", x.best(0), 0);
        check.row("best(0)", x);
        check.due("best(1)", x.best(1), 4);
        check.row("best(1)", x, 3);
        check.due("best(2)", x.best(2), 9);
        check.row("best(2)", x, 3, 4);
        check.due("best(3)", x.best(3), 9);
        check.row("fewer steps", x, 3, 4);
        check.due("best(4)", x.best(4), 11);
        check.row("through where it began", x, 1, 2, 3, 4);
        check.due("best(5)", x.best(5), 11);
        check.row("fewer steps", x, 1, 2, 3, 4);
        check.due("best(6)", x.best(6), 12);
        check.row("best(6)", x, 1, 0, 1, 2, 3, 4);
        check.due("best(7)", x.best(7), -1);
        check.due("best(-1)", x.best(-1), -1);
        check.row("the row stays", x, 1, 0, 1, 2, 3, 4);
        check.due("the dust lies there yet", x.count(4), 15);
        x.chair(3);
        check.due("a chair", x.best(6), 3);
        check.row("a chair", x, 1, 0);
    }

    private static void bestOfEqualOnes() {
        UnderTheSofa x = Check.in(".../.../...");
        x.carry(4, 0);
        check.due("no dust", x.best(6), 0);
        check.row("no dust", x);
        x.sheet(2, 9, 4, 0);
        check.due("equal ones", x.best(1), 4);
        check.row("equal ones", x, 1);
        x.best(2);
        check.row("the least row", x, 1, 0);
        x.best(6);
        check.row("the least row of six", x, 1, 0, 3, 6, 7, 8);
        x.sheet(2, 6, -45, 10);
        check.due("the fewest steps, though a less row leads there", x.best(6), 5);
        check.row("the fewest steps, though a less row leads there", x, 5);
        x.carry(8, 0);
        x.sheet(2, 3, 9, 0);
        check.due("far dust", x.best(2), 9);
        check.row("far dust", x, 5, 2);
    }
}
