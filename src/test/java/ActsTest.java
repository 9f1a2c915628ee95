/** Promises 9 to 16: steps, turn, days, chair, carry, load, run, undo. */
public final class ActsTest {
    private static final Check check = new Check();

    public static void main(String[] args) {
        steps();
        stepsTillOut();
        turns();
        days();
        chairs();
        carries();
        loads();
        runs();
        runsThatAreRefused();
        runsThatCannotStand();
        undoOfEach();
        undoOfFifteen();
        check.close("ActsTest");
    }

    private static void steps() {
        UnderTheSofa x = Check.in("p..");
        x.sheet(2, 3, 5, 1);
        x.turn(1);
        check.due("steps(4)", x.steps(4), 4);
        check.row("steps(4)", x, 13, 2);
        check.due("spot", x.machine(0), 2);
        check.due("heading", x.machine(1), 3);
        check.due("current", x.machine(2), 96);
        check.due("box", x.machine(3), 13);
        check.due("steps", x.machine(4), 4);
        check.due("bumps", x.machine(5), 2);
        check.due("dust that is left", x.count(4), 5);
        check.due("steps(0)", x.steps(0), 0);
        check.row("steps(0)", x, 0, 0);
        check.due("steps(2)", x.steps(2), 2);
        check.row("steps(2)", x, 5, 0);
        check.due("steps(201)", x.steps(201), -1);
        check.due("steps(-1)", x.steps(-1), -1);
        check.row("the row stays", x, 5, 0);
        check.due("what can be undone", x.count(8), 4);
        x.chair(1);
        x.turn(2);
        check.due("it looks to the chair", x.machine(7), 1);
        x.steps(1);
        check.row("it strikes a chair", x, 0, 1);
        UnderTheSofa y = Check.in("p.#");
        y.turn(1);
        y.steps(2);
        check.row("it strikes a wall", y, 0, 1);
        Check.rule(y, "3");
        y.steps(1);
        check.due("by the rule", y.machine(1), 1);
    }

    private static void stepsTillOut() {
        UnderTheSofa x = Check.in("p.");
        check.due("till it is out", x.steps(200), 100);
        check.due("current", x.machine(2), 0);
        check.due("out", x.steps(3), 0);
        check.row("out", x, 0, 0);
        check.due("steps", x.machine(4), 100);
        UnderTheSofa y = Check.in("q.");
        check.due("200 steps", y.load(999), 0);
        check.due("200 steps", y.steps(200), 200);
        y.carry(0, 0);
        y.load(3);
        check.due("a rug costs 2 where it begins", y.steps(5), 1);
        check.due("too little is left for a rug", y.machine(2), 1);
        y.carry(1, 0);
        check.due("but not where it is bare", y.steps(5), 1);
        check.due("current", y.machine(2), 0);
    }

    private static void turns() {
        UnderTheSofa x = Check.in("p.");
        x.steps(1);
        x.steps(0);
        int[] by = {0, 1, 3, 2, 3};
        int[] due = {1, 2, 1, 3, 2};
        for (int i = 0; i < by.length; i++) {
            check.due("turn(" + by[i] + ")", x.turn(by[i]), due[i]);
            check.due("heading", x.machine(1), due[i]);
        }
        check.due("turn(4)", x.turn(4), -1);
        check.due("turn(-1)", x.turn(-1), -1);
        check.due("heading", x.machine(1), 2);
        check.due("what can be undone", x.count(8), 7);
    }

    private static void days() {
        UnderTheSofa x = Check.in("pr#/..r");
        check.due("days(1)", x.days(1), 1 + 2 + 1 + 1 + 2);
        check.due("days(30)", x.days(30), 31 * 7);
        check.due("day", x.count(6), 31);
        check.due("of a wall none", x.spot(2, 2), 0);
        x.chair(1);
        check.due("under a chair too", x.days(1), 32 * 7);
        x.days(17);
        check.due("below 99", x.spot(1, 2), 98);
        check.due("99 at most", x.days(1), 50 * 3 + 2 * 99);
        x.days(30);
        check.due("all have it", x.days(30), 99 * 5);
        check.due("days(0)", x.days(0), -1);
        check.due("days(31)", x.days(31), -1);
        check.due("days(-1)", x.days(-1), -1);
        check.due("day", x.count(6), 110);
    }

    private static void chairs() {
        UnderTheSofa x = Check.in("p.#.");
        check.due("put down", x.chair(3), 1);
        check.due("another", x.chair(1), 2);
        check.due("not free", x.spot(1, 5), 0);
        check.due("taken up", x.chair(3), 1);
        check.due("free", x.spot(3, 5), 1);
        check.due("a wall", x.chair(2), -2);
        check.due("the machine is there", x.chair(0), -2);
        check.due("none such", x.chair(4), -1);
        check.due("none such", x.chair(-1), -1);
        check.due("chairs", x.count(3), 1);
        check.due("what can be undone", x.count(8), 3);
        x.carry(3, 0);
        check.due("on the plug", x.chair(0), 2);
        check.due("it is the plug yet", x.spot(0, 3), 1);
    }

    private static void carries() {
        UnderTheSofa x = Check.in("p.#./....");
        x.days(1);
        check.due("carry", x.carry(7, 2), 0);
        check.due("spot", x.machine(0), 7);
        check.due("heading", x.machine(1), 2);
        check.due("it sweeps nothing", x.count(4), 7);
        check.due("it costs nothing", x.machine(2), 100);
        check.due("to where it is", x.carry(7, 3), 7);
        x.chair(4);
        check.due("a wall", x.carry(2, 0), -2);
        check.due("a chair", x.carry(4, 0), -2);
        check.due("none such", x.carry(8, 0), -1);
        check.due("none such", x.carry(-1, 0), -1);
        check.due("another heading", x.carry(0, 4), -1);
        check.due("another heading", x.carry(0, -1), -1);
        check.due("heading", x.machine(1), 3);
        check.due("what can be undone", x.count(8), 4);
    }

    private static void loads() {
        UnderTheSofa x = Check.in("p.");
        x.days(4);
        x.turn(1);
        x.steps(1);
        check.due("not at the plug", x.load(5), -2);
        check.due("another n first", x.load(0), -1);
        check.due("another n first", x.load(1000), -1);
        x.carry(0, 0);
        check.due("another n", x.load(-5), -1);
        check.due("load(999)", x.load(999), 4);
        check.due("current", x.machine(2), 999);
        check.due("box", x.machine(3), 0);
        check.due("load(1)", x.load(1), 0);
        check.due("current", x.machine(2), 1);
        check.due("no plug", Check.in("..").load(5), -2);
    }

    private static void runs() {
        UnderTheSofa x = Check.in("p../...");
        check.due("a run", Check.run(x, "s1t0d2c02l05s3"), 6);
        check.row("a run", x, 0, 2 + 2);
        check.due("the text is empty then", x.count(10), 0);
        check.due("spot", x.machine(0), 4);
        check.due("heading", x.machine(1), 2);
        check.due("current", x.machine(2), 47);
        check.due("day", x.count(6), 2);
        check.due("chairs", x.count(3), 1);
        check.due("as one", x.count(8), 1);
        check.due("undone", x.undo(), 0);
        check.due("spot", x.machine(0), 0);
        check.due("current", x.machine(2), 100);
        check.due("day", x.count(6), 0);
        check.due("chairs", x.count(3), 0);
        check.due("l99", Check.run(x, "l99"), 1);
        check.due("current", x.machine(2), 990);
        check.due("nothing", Check.run(x, ""), 0);
        check.row("nothing", x, 0, 0);
        check.due("nothing is not undone", x.count(8), 1);
        check.due("s0", Check.run(x, "s0"), 1);
        check.row("s0", x, 0, 0);
        check.due("s0 is undone", x.count(8), 2);
        check.due("60 signs", Check.run(x, "s0".repeat(30)), 30);
        check.due("d9", Check.run(x, "d9"), 1);
        check.due("day", x.count(6), 9);
        check.due("a chair put down and taken up", Check.run(x, "c05c04c05"), 3);
        check.due("chairs", x.count(3), 1);
    }

    private static void runsThatAreRefused() {
        UnderTheSofa x = Check.in("p../..#");
        String[] first = {"l00", "c00", "c05", "c06", "c99"};
        for (String act : first) {
            check.due(act, Check.run(x, act), 0);
            check.row(act, x, 1, 0);
            check.due(act + " is not undone", x.count(8), 0);
        }
        check.due("till one is refused", Check.run(x, "d1t1s1c99d1"), 3);
        check.row("till one is refused", x, 1, 1);
        check.due("day", x.count(6), 1);
        check.due("those that were done", x.count(8), 1);
        check.due("not at the plug", Check.run(x, "l50"), 0);
        x.carry(0, 0);
        x.load(2);
        check.due("one step of five is enough", Check.run(x, "s5s0"), 2);
        check.row("one step of five is enough", x, 0, 0);
        check.due("out", Check.run(x, "s5"), 0);
        check.row("out", x, 1, 0);
        check.due("out, but for 0", Check.run(x, "s0s1s0"), 1);
        check.row("out, but for 0", x, 1, 0);
    }

    private static void runsThatCannotStand() {
        String[] texts = {"x", "s", "t", "t4", "d0", "c", "c1", "c1x", "l0", "lx", "s1 ", "s1s", "s10", "S1", "s1x1", "d1t", "sx", "0",
            "s0".repeat(30) + "s", "s0".repeat(31), "s0".repeat(29) + "c0", "s0x" + "s0".repeat(35), "s0".repeat(29) + "c00s0",
            "s0".repeat(30) + "x", "s0".repeat(40)};
        int[] due = {-1, -2, -2, -2, -2, -2, -3, -3, -3, -2, -3, -4, -3, -1, -3, -4, -2, -1,
            -61, -61, -61, -3, -61,
            -61, -61};
        UnderTheSofa x = Check.in("p.");
        x.steps(1);
        for (int i = 0; i < texts.length; i++) {
            check.due("run " + texts[i], Check.run(x, texts[i]), due[i]);
            check.due("the text is empty then", x.count(10), 0);
            check.row("the row stays", x, 0, 1);
        }
        check.due("nothing is done", Check.run(x, "d1d1d1x"), -7);
        check.due("day", x.count(6), 0);
        check.due("what can be undone", x.count(8), 1);
    }

    private static void undoOfEach() {
        UnderTheSofa x = Check.in("p..");
        check.due("none", x.undo(), -1);
        x.days(3);
        x.turn(1);
        x.steps(2);
        x.chair(1);
        x.carry(0, 2);
        x.load(7);
        check.due("what can be undone", x.count(8), 6);
        check.due("load", x.undo(), 5);
        check.due("current", x.machine(2), 98);
        check.due("box", x.machine(3), 6);
        check.due("carry", x.undo(), 4);
        check.due("spot", x.machine(0), 2);
        check.due("heading", x.machine(1), 1);
        check.due("chair", x.undo(), 3);
        check.due("chairs", x.count(3), 0);
        x.sheet(3, 0, 0, 0);
        check.due("steps", x.undo(), 2);
        check.due("spot", x.machine(0), 0);
        check.due("box", x.machine(3), 0);
        check.due("steps", x.machine(4), 0);
        check.due("dust is as ahead of them", x.count(4), 9);
        check.due("turn", x.undo(), 1);
        check.due("heading", x.machine(1), 0);
        check.due("days", x.undo(), 0);
        check.due("day", x.count(6), 0);
        check.due("dust", x.count(4), 0);
        check.due("none", x.undo(), -1);
        x.steps(1);
        check.due("bumps", x.machine(5), 1);
        x.undo();
        check.due("bumps", x.machine(5), 0);
        x.turn(4);
        x.chair(0);
        x.load(0);
        x.days(0);
        x.steps(-1);
        x.carry(9, 0);
        check.due("refused ones are not undone", x.undo(), -1);
    }

    private static void undoOfFifteen() {
        UnderTheSofa x = Check.in("p..");
        x.days(1);
        x.days(2);
        for (int i = 0; i < 14; i++) {
            x.turn(1);
        }
        check.due("15 are kept", x.count(8), 15);
        for (int left = 14; left >= 0; left--) {
            check.due("undo", x.undo(), left);
        }
        check.due("none", x.undo(), -1);
        check.due("the latest ones were kept", x.count(6), 1);
        x.turn(1);
        x.keep(0);
        x.turn(1);
        check.due("a number of which nothing is kept", x.again(1), false);
        check.due("that forgets nothing", x.count(8), 2);
        check.due("again(0)", x.again(0), true);
        check.due("that forgets them", x.undo(), -1);
        x.turn(1);
        Check.flat(x, "x");
        check.due("a refused flat forgets nothing", x.count(8), 1);
        Check.flat(x, "..");
        check.due("a flat forgets them", x.undo(), -1);
    }
}
