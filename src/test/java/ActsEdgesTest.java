import java.util.List;

/** Promises 9 to 16, sentence by sentence: steps, turn, days, chair, carry, load, run, undo. */
public final class ActsEdgesTest extends Edges {
    public static void main(String[] args) {
        ActsEdgesTest test = new ActsEdgesTest();
        test.steps();
        test.turn();
        test.days();
        test.chair();
        test.carry();
        test.load();
        test.runsActs();
        test.runsAnswers();
        test.runsTexts();
        test.undo();
        test.undoForgets();
        test.close(9, 16);
    }

    /** What a refused act leaves: nothing more that can be undone, and the row that stood. */
    private static void refused(Check check, UnderTheSofa x, String call, int answer) {
        check.due(call, answer, NONE);
        check.due(call + ", what can be undone", x.count(8), 0);
        check.due(call + ", numbers of the row", x.count(9), 0);
    }

    private void steps() {
        edge(9, "n STEPS (0 .. 200),", check -> {
            UnderTheSofa x = in("p.");
            x.load(999);
            check.due("steps(0)", x.steps(0), 0);
            check.due("steps then", x.machine(4), 0);
            check.due("steps(1)", x.steps(1), 1);
            check.due("steps then", x.machine(4), 1);
            check.due("steps(200)", x.steps(200), 200);
            check.due("steps then", x.machine(4), 201);
            check.due("current then", x.machine(2), 999 - 201);
            check.due("steps(0) can be undone too", x.count(8), 4);
        });
        edge(9, "till it is OUT: how many were done;", check -> {
            UnderTheSofa x = in("p.");
            check.due("of 200", x.steps(200), 100);
            check.due("of 200 more", x.steps(200), 0);
            check.due("it can be undone, as it was not refused", x.count(8), 2);
            UnderTheSofa y = in("q");
            y.load(5);
            check.due("on a rug", y.steps(200), 2);
            check.due("what is left", y.machine(2), 1);
            UnderTheSofa z = in("p");
            z.load(7);
            check.due("just as many as it has", z.steps(7), 7);
            z.load(7);
            check.due("one more than it has", z.steps(8), 7);
        });
        edge(9, "the ROW: DUST that came into BOX, how often it struck.", check -> {
            UnderTheSofa x = in("p..", 0, 1);
            x.sheet(2, 3, 10, 1);
            x.steps(2);
            check.row("two steps", x, 11 + 12, 0);
            x.steps(3);
            check.row("two bumps and a step", x, 0, 2);
            x.steps(1);
            check.row("the box was not empty ahead of it", x, 10, 0);
            x.steps(0);
            check.row("none", x, 0, 0);
        });
        edge(9, "Refused: another n.", check -> {
            UnderTheSofa x = in("p.");
            for (int n : new int[] {-1, 201, Integer.MIN_VALUE, Integer.MAX_VALUE}) {
                refused(check, x, "steps(" + n + ")", x.steps(n));
            }
            check.due("steps then", x.machine(4), 0);
        });
    }

    private void turn() {
        edge(10, "HEADING is n quarters (0 .. 3) to the right more: HEADING then.", check -> {
            for (int heading = 0; heading < 4; heading++) {
                for (int n = 0; n < 4; n++) {
                    UnderTheSofa x = in("..", 1, heading);
                    check.due("turn(" + n + ") from " + heading, x.turn(n), (heading + n) % 4);
                    check.due("heading", x.machine(1), (heading + n) % 4);
                    check.due("it costs nothing", x.machine(2), 100);
                    check.due("it can be undone", x.count(8), 2);
                }
            }
        });
        edge(10, "Refused: another n.", check -> {
            UnderTheSofa x = in("..");
            for (int n : new int[] {-1, 4, 5, -4, Integer.MIN_VALUE, Integer.MAX_VALUE}) {
                refused(check, x, "turn(" + n + ")", x.turn(n));
                check.due("heading", x.machine(1), 0);
            }
        });
    }

    private void days() {
        edge(11, "n DAYS (1 .. 30) go by:", check -> {
            UnderTheSofa x = in("..");
            x.days(1);
            check.due("day", x.count(6), 1);
            x.days(30);
            check.due("day", x.count(6), 31);
            for (int i = 0; i < 10; i++) {
                x.days(30);
            }
            check.due("days go on when dust does not", x.count(6), 331);
        });
        edge(11, "on each, DUST of each SPOT that is no WALL is 1 more, of a RUG 2", check -> {
            UnderTheSofa x = in("p#r/...");
            x.chair(4);
            x.chair(2);
            x.days(1);
            int[] dust = {1, 0, 2, 1, 1, 1};
            for (int spot = 0; spot < 6; spot++) {
                check.due("dust of " + spot, x.spot(spot, 2), dust[spot]);
            }
            x.days(30);
            for (int spot = 0; spot < 6; spot++) {
                check.due("dust of " + spot, x.spot(spot, 2), 31 * dust[spot]);
            }
            UnderTheSofa y = in("q");
            y.days(3);
            check.due("on a plug on a rug, under the machine", y.spot(0, 2), 6);
        });
        edge(11, "(99 at most):", check -> {
            UnderTheSofa x = in(".r");
            x.sheet(2, 2, 97, 0);
            x.days(1);
            check.due("bare", x.spot(0, 2), 98);
            check.due("a rug", x.spot(1, 2), 99);
            x.days(1);
            check.due("bare", x.spot(0, 2), 99);
            check.due("a rug", x.spot(1, 2), 99);
            x.days(30);
            check.due("bare", x.spot(0, 2), 99);
            x.sheet(2, 2, 98, 0);
            x.days(1);
            check.due("a rug from 98", x.spot(1, 2), 99);
        });
        edge(11, "DUST of all then.", check -> {
            UnderTheSofa x = in(".r#");
            check.due("a day", x.days(1), 3);
            check.due("thirty", x.days(30), 93);
            check.due("36 spots", in(GREATEST).days(30), 36 * 30);
        });
        edge(11, "Refused: another n.", check -> {
            UnderTheSofa x = in("..");
            for (int n : new int[] {0, -1, 31, Integer.MIN_VALUE, Integer.MAX_VALUE}) {
                refused(check, x, "days(" + n + ")", x.days(n));
                check.due("day", x.count(6), 0);
                check.due("dust", x.count(4), 0);
            }
        });
    }

    private void chair() {
        edge(12, "A CHAIR is put down at a SPOT,", check -> {
            UnderTheSofa x = in("p.r");
            x.chair(2);
            check.due("it stands there", x.spot(2, 1), 1);
            check.due("it is not free", x.spot(2, 5), 0);
            check.due("it stands nowhere else", x.spot(1, 1), 0);
        });
        edge(12, "or taken up, if one is there:", check -> {
            UnderTheSofa x = in("p.r");
            x.chair(2);
            x.chair(2);
            check.due("none stands there", x.spot(2, 1), 0);
            check.due("it is free", x.spot(2, 5), 1);
        });
        edge(12, "how many there are then.", check -> {
            UnderTheSofa x = in(GREATEST);
            for (int spot = 1; spot < 36; spot++) {
                check.due("put down at " + spot, x.chair(spot), spot);
            }
            for (int spot = 1; spot < 36; spot++) {
                check.due("taken up at " + spot, x.chair(spot), 35 - spot);
            }
        });
        edge(12, "-2: a WALL, or THE MACHINE is there;", check -> {
            UnderTheSofa x = in("p.#");
            check.due("a wall", x.chair(2), -2);
            check.due("the machine", x.chair(0), -2);
            check.due("chairs", x.count(3), 0);
            check.due("what can be undone", x.count(8), 0);
            x.carry(1, 0);
            check.due("it was there", x.chair(0), 1);
        });
        edge(12, "NONE: none such.", check -> {
            UnderTheSofa x = in("p.#");
            for (int spot : new int[] {-1, 3, 35, 36, 64, Integer.MIN_VALUE, Integer.MAX_VALUE}) {
                refused(check, x, "chair(" + spot + ")", x.chair(spot));
            }
            check.due("the last one", in(GREATEST).chair(35), 1);
            check.due("one behind it", in(GREATEST).chair(36), NONE);
        });
    }

    private void carry() {
        edge(13, "THE MACHINE is carried to a FREE SPOT with a HEADING (0 .. 3):", check -> {
            for (int heading = 0; heading < 4; heading++) {
                UnderTheSofa x = in("p.r");
                x.days(1);
                x.carry(2, heading);
                check.due("spot", x.machine(0), 2);
                check.due("heading", x.machine(1), heading);
                check.due("current", x.machine(2), 100);
                check.due("box", x.machine(3), 0);
                check.due("steps", x.machine(4), 0);
                check.due("dust there", x.spot(2, 2), 2);
            }
        });
        edge(13, "where it was.", check -> {
            UnderTheSofa x = in("..p");
            check.due("to 0", x.carry(0, 1), 2);
            check.due("to where it is", x.carry(0, 2), 0);
            check.due("heading", x.machine(1), 2);
            check.due("to 1", x.carry(1, 2), 0);
        });
        edge(13, "-2: not FREE;", check -> {
            UnderTheSofa x = in("p.#");
            x.chair(1);
            check.due("a chair", x.carry(1, 0), -2);
            check.due("a wall", x.carry(2, 3), -2);
            check.due("spot", x.machine(0), 0);
            check.due("heading", x.machine(1), 0);
            check.due("what can be undone", x.count(8), 1);
        });
        edge(13, "NONE: others.", check -> {
            UnderTheSofa x = in("p.#");
            for (int spot : new int[] {-1, 3, 36, Integer.MIN_VALUE, Integer.MAX_VALUE}) {
                refused(check, x, "carry(" + spot + ", 0)", x.carry(spot, 0));
            }
            for (int heading : new int[] {-1, 4, Integer.MIN_VALUE, Integer.MAX_VALUE}) {
                refused(check, x, "carry(1, " + heading + ")", x.carry(1, heading));
                refused(check, x, "carry(2, " + heading + ")", x.carry(2, heading));
            }
        });
    }

    private void load() {
        edge(14, "At the PLUG: CURRENT is n (1 .. 999),", check -> {
            UnderTheSofa x = in(".q", 1, 0);
            for (int n : new int[] {1, 2, 500, 998, 999, 1}) {
                x.load(n);
                check.due("load(" + n + ")", x.machine(2), n);
            }
        });
        edge(14, "BOX is emptied: what was in it.", check -> {
            UnderTheSofa x = in("p.", 1, 3);
            x.sheet(2, 1, 42, 0);
            x.steps(1);
            check.due("load(9)", x.load(9), 42);
            check.due("box", x.machine(3), 0);
            check.due("load(9) again", x.load(9), 0);
        });
        edge(14, "-2: it is not at the PLUG, or there is none;", check -> {
            UnderTheSofa x = in("p.", 1, 0);
            check.due("not at the plug", x.load(5), -2);
            check.due("current", x.machine(2), 100);
            check.due("what can be undone", x.count(8), 1);
            check.due("none", in("..").load(5), -2);
            check.due("none at first", new UnderTheSofa().load(999), -2);
        });
        edge(14, "NONE: another n.", check -> {
            for (String flat : new String[] {"p.", ".."}) {
                UnderTheSofa x = in(flat);
                for (int n : new int[] {0, -1, 1000, Integer.MIN_VALUE, Integer.MAX_VALUE}) {
                    refused(check, x, "load(" + n + ") in " + flat, x.load(n));
                }
                check.due("current", x.machine(2), 100);
            }
        });
    }

    private void runsActs() {
        edge(15, "THE TEXT tells A RUN (an empty one: nothing),", check -> {
            UnderTheSofa x = in("p.");
            List<Long> ahead = seen(x);
            check.due("an empty one", run(x, ""), 0);
            check.row("an empty one", x, 0, 0);
            x.way(0, 0);
            UnderTheSofa y = in("p.");
            y.way(0, 0);
            check.due("nothing is done", seen(x).equals(seen(y)), true);
            check.due("what is seen ahead of it", ahead.size() > 0, true);
        });
        edge(15, "signs one behind another: s and a digit (steps(); done, if at least one STEP was, or for 0),", check -> {
            for (int n = 0; n <= 9; n++) {
                UnderTheSofa x = in("p.");
                check.due("s" + n, run(x, "s" + n), 1);
                check.due("steps", x.machine(4), n);
            }
            UnderTheSofa y = in("p.");
            y.load(3);
            check.due("three of nine", run(y, "s9"), 1);
            check.row("three of nine", y, 0, 0);
            check.due("steps", y.machine(4), 3);
            check.due("none of nine", run(y, "s9"), 0);
            check.row("none of nine", y, 1, 0);
            check.due("none of none", run(y, "s0"), 1);
            check.row("none of none", y, 0, 0);
        });
        edge(15, "t and a digit 0 .. 3 (turn()),", check -> {
            for (int n = 0; n <= 3; n++) {
                UnderTheSofa x = in("..", 0, 2);
                check.due("t" + n, run(x, "t" + n), 1);
                check.due("heading", x.machine(1), (2 + n) % 4);
            }
            check.due("t4", run(new UnderTheSofa(), "t4"), -2);
            check.due("t/", run(new UnderTheSofa(), "t/"), -2);
        });
        edge(15, "d and a digit 1 .. 9 (days()),", check -> {
            for (int n = 1; n <= 9; n++) {
                UnderTheSofa x = in(".r");
                check.due("d" + n, run(x, "d" + n), 1);
                check.due("day", x.count(6), n);
                check.due("dust", x.count(4), 3 * n);
            }
            check.due("d0", run(new UnderTheSofa(), "d0"), -2);
            check.due("d:", run(new UnderTheSofa(), "d:"), -2);
        });
        edge(15, "c and two digits (a SPOT; chair()),", check -> {
            UnderTheSofa x = in(GREATEST);
            check.due("c01c35c10", run(x, "c01c35c10"), 3);
            check.due("chair at 1", x.spot(1, 1), 1);
            check.due("chair at 35", x.spot(35, 1), 1);
            check.due("chair at 10", x.spot(10, 1), 1);
            check.due("chairs", x.count(3), 3);
            check.due("c01c35", run(x, "c01c35"), 2);
            check.due("chairs", x.count(3), 1);
            check.due("the last one taken up", run(x, "c10"), 1);
            check.row("the last one taken up", x, 0, 0);
            check.due("chairs", x.count(3), 0);
            check.due("none such", run(x, "c36"), 0);
            check.due("none such", run(x, "c99"), 0);
            check.due("the machine", run(x, "c00"), 0);
            check.due("a wall", run(in(".#"), "c01"), 0);
        });
        edge(15, "l and two digits (the number by 10 loaded: load(), refused for 00):", check -> {
            UnderTheSofa x = in("p.");
            check.due("l01", run(x, "l01"), 1);
            check.due("current", x.machine(2), 10);
            check.due("l99", run(x, "l99"), 1);
            check.due("current", x.machine(2), 990);
            check.due("l50", run(x, "l50"), 1);
            check.due("current", x.machine(2), 500);
            check.due("l00", run(x, "l00"), 0);
            check.row("l00", x, 1, 0);
            check.due("current", x.machine(2), 500);
            check.due("not at the plug", run(in("p.", 1, 0), "l50"), 0);
            check.due("no plug", run(in(".."), "l50"), 0);
        });
    }

    private void runsAnswers() {
        edge(15, "they are done one by one, till one is refused (it answers below 0, or no STEP of s was done):", check -> {
            String[] refused = {"c99", "c00", "c02", "l00"};
            for (String act : refused) {
                UnderTheSofa x = in("p.#/...");
                check.due(act + " between", run(x, "d1" + act + "d2"), 1);
                check.row(act + " between", x, 1, 0);
                check.due("day", x.count(6), 1);
            }
            UnderTheSofa y = in("p.");
            y.load(2);
            check.due("no step", run(y, "s2d1s1d1"), 2);
            check.row("no step", y, 1, 0);
            check.due("day", y.count(6), 1);
            UnderTheSofa z = in("p..");
            z.days(1);
            check.due("in their order", run(z, "t1s1t2s1l03s1"), 6);
            check.due("spot", z.machine(0), 0);
            check.due("current", z.machine(2), 29);
        });
        edge(15, "how many were done;", check -> {
            check.due("one", run(in("p."), "t1"), 1);
            check.due("thirty", run(in("p."), "t1".repeat(30)), 30);
            check.due("twenty", run(in("p."), "l10".repeat(20)), 20);
            check.due("none", run(in("p."), "l00t1"), 0);
        });
        edge(15, "the ROW: 1 if one was refused, else 0; BOX then.", check -> {
            UnderTheSofa x = in("p..", 0, 1);
            x.sheet(2, 3, 20, 1);
            run(x, "s1");
            check.row("none was refused", x, 0, 21);
            run(x, "s1l10s1");
            check.row("the second was refused", x, 1, 43);
            run(x, "");
            check.row("nothing", x, 0, 43);
            run(x, "l00");
            check.row("the first was refused", x, 1, 43);
            x.carry(0, 0);
            run(x, "l10");
            check.row("emptied", x, 0, 0);
            run(x, "t0c99");
            check.row("the last was refused", x, 1, 0);
        });
    }

    private static void cannotStand(Check check, String text, int due) {
        UnderTheSofa x = in("p.");
        check.due("run of " + text, run(x, text), due);
        check.due("the text is empty then", x.count(10), 0);
        check.due("steps then", x.machine(4), 0);
        check.due("numbers of the row", x.count(9), 0);
        check.due("what can be undone", x.count(8), 0);
    }

    private void runsTexts() {
        edge(15, "-1 - p: the sign at p can't stand there", check -> {
            String[] texts = {"x", "0", " s1", "S1", "s1x", "s10", "s1 ", "sx", "s/", "s:", "t4", "tx", "d0", "dx", "cx", "c1x", "c:0", "c0/", "lx", "l1x", "s1s1-",
                "ss", "s1\u0000", "s1\u00ff", "c001"};
            int[] due = {-1, -1, -1, -1, -3, -3, -3, -2, -2, -2, -2, -2, -2, -2, -2, -3, -2, -3, -2, -3, -5,
                -2, -3, -3, -4};
            for (int i = 0; i < texts.length; i++) {
                cannotStand(check, texts[i], due[i]);
            }
        });
        edge(15, "(its end, if it ends too early;", check -> {
            String[] texts = {"s", "t", "d", "c", "c0", "l", "l9", "s1t", "s1c", "s1c0", "s1".repeat(29) + "s", "c00".repeat(19) + "c0", "s1".repeat(29) + "c0"};
            for (String text : texts) {
                cannotStand(check, text, -1 - text.length());
            }
        });
        edge(15, "60, if it has more and the first 60 could go on or end);", check -> {
            cannotStand(check, "s1".repeat(30) + "s1", -61);
            cannotStand(check, "s1".repeat(30) + "x", -61);
            cannotStand(check, "s1".repeat(40), -61);
            cannotStand(check, "s1".repeat(29) + "c00", -61);
            cannotStand(check, "c00".repeat(19) + "s1s1", -61);
            cannotStand(check, "s1".repeat(29) + "s" + "x" + "1", -60);
            cannotStand(check, "s1".repeat(10) + "x" + "s1".repeat(29), -21);
            check.due("60 signs", run(in("p."), "s1".repeat(30)), 30);
            check.due("60 signs by three", run(in("p."), "l10".repeat(20)), 20);
        });
        edge(15, "nothing is done then.", check -> {
            cannotStand(check, "s1d1t1c01l10x", -13);
            cannotStand(check, "s1s1s1s", -8);
            UnderTheSofa x = in("p.");
            run(x, "d5t2c01l");
            check.due("day", x.count(6), 0);
            check.due("heading", x.machine(1), 0);
            check.due("chairs", x.count(3), 0);
        });
    }

    private void undo() {
        edge(16, "The latest steps(), turn(), days(), chair(), carry(), load() or run()", check -> {
            String[] names = {"steps", "turn", "days", "chair", "carry", "load", "run"};
            for (int kind = 0; kind < names.length; kind++) {
                UnderTheSofa x = in("p..r");
                x.sheet(2, 4, 3, 2);
                UnderTheSofa same = in("p..r");
                same.sheet(2, 4, 3, 2);
                int[] answers = {kind == 0 ? x.steps(3) : 0, kind == 1 ? x.turn(1) : 0, kind == 2 ? x.days(2) : 0, kind == 3 ? x.chair(1) : 0,
                    kind == 4 ? x.carry(2, 2) : 0, kind == 5 ? x.load(7) : 0, kind == 6 ? run(x, "t1s2d1") : 0};
                check.due(names[kind] + " was not refused", answers[kind] >= 0, true);
                check.due(names[kind] + " changes something", seen(x).equals(seen(same)), false);
                check.due("undo() of " + names[kind], x.undo(), 0);
                x.looks();
                same.looks();
                check.due(names[kind] + " is undone", seen(x).equals(seen(same)), true);
            }
        });
        edge(16, "(of 15 that are kept, the latest ones;", check -> {
            for (int acts = 13; acts <= 40; acts++) {
                UnderTheSofa x = in("..");
                for (int i = 0; i < acts; i++) {
                    x.days(1);
                }
                int kept = Math.min(15, acts);
                check.due("of " + acts, x.count(8), kept);
                for (int i = 1; i <= kept; i++) {
                    check.due("left", x.undo(), kept - i);
                    check.due("day", x.count(6), acts - i);
                }
                check.due("none", x.undo(), NONE);
            }
        });
        edge(16, "such as were not refused;", check -> {
            UnderTheSofa x = in("p.#");
            x.turn(1);
            x.steps(201);
            x.turn(4);
            x.days(31);
            x.chair(0);
            x.chair(2);
            x.chair(9);
            x.carry(2, 0);
            x.carry(0, 9);
            x.load(0);
            run(x, "x");
            check.due("what can be undone", x.count(8), 1);
            x.steps(1);
            x.load(5);
            check.due("not at the plug", x.count(8), 2);
            x.load(2000);
            x.turn(0);
            check.due("a turn by none is not refused", x.count(8), 3);
            x.steps(0);
            check.due("nor are no steps", x.count(8), 4);
        });
        edge(16, "run() of which one act was done, as one)", check -> {
            UnderTheSofa x = in("p..");
            run(x, "t1s1d1c02");
            check.due("as one", x.count(8), 1);
            run(x, "d1c99");
            check.due("one act and a refused one", x.count(8), 2);
            run(x, "c99d1");
            check.due("none was done", x.count(8), 2);
            run(x, "");
            check.due("nothing", x.count(8), 2);
            run(x, "s0");
            check.due("an act that changes nothing", x.count(8), 3);
            check.due("undo", x.undo(), 2);
            check.due("undo", x.undo(), 1);
            check.due("day", x.count(6), 1);
            check.due("undo of four", x.undo(), 0);
            check.due("spot", x.machine(0), 0);
            check.due("heading", x.machine(1), 0);
            check.due("chairs", x.count(3), 0);
            check.due("day", x.count(6), 0);
        });
        edge(16, "is undone (CHAIRS, DUST, THE MACHINE, DAY are as ahead of it):", check -> {
            UnderTheSofa x = in("p..r");
            x.days(2);
            x.turn(1);
            x.chair(3);
            rule(x, "2");
            x.felt(0);
            x.keep(1);
            run(x, "s3c03d4t2");
            x.sheet(2, 4, 50, 1);
            x.felt(0);
            rule(x, "3");
            x.undo();
            check.due("a chair", x.spot(3, 1), 1);
            int[] dust = {2, 2, 2, 4};
            for (int spot = 0; spot < 4; spot++) {
                check.due("dust of " + spot + ", a sheet's too", x.spot(spot, 2), dust[spot]);
            }
            int[] machine = {0, 1, 100, 0, 0, 0};
            for (int what = 0; what < machine.length; what++) {
                check.due("machine(" + what + ")", x.machine(what), machine[what]);
            }
            check.due("day", x.count(6), 2);
            check.due("the rule is not undone", x.machine(6), 3);
            check.due("what was felt is not undone", x.count(7), 2);
            check.due("what is kept is not undone", x.again(1), true);
        });
    }

    private void undoForgets() {
        edge(16, "how many are left that can be.", check -> {
            UnderTheSofa x = in("..");
            x.turn(1);
            x.turn(1);
            x.turn(1);
            check.due("two", x.undo(), 2);
            check.due("one", x.undo(), 1);
            x.turn(2);
            check.due("one again", x.undo(), 1);
            check.due("heading", x.machine(1), 1);
            check.due("none", x.undo(), 0);
            check.due("heading", x.machine(1), 0);
        });
        edge(16, "Refused: none.", check -> {
            UnderTheSofa x = in("..");
            check.due("at first", x.undo(), NONE);
            x.turn(1);
            x.undo();
            check.due("behind the last one", x.undo(), NONE);
            check.due("it is undone once", x.machine(1), 0);
        });
        edge(16, "(flat() and again() forget them, if they are not refused.)", check -> {
            UnderTheSofa x = in("..");
            x.turn(1);
            flat(x, "..x");
            check.due("a flat that can't stand", x.count(8), 1);
            flat(x, "##");
            check.due("a flat of walls", x.count(8), 1);
            x.again(0);
            x.again(3);
            check.due("nothing kept", x.count(8), 1);
            x.keep(0);
            check.due("keep()", x.count(8), 1);
            x.again(0);
            check.due("again()", x.count(8), 0);
            check.due("undo()", x.undo(), NONE);
            x.turn(1);
            x.turn(1);
            flat(x, "..");
            check.due("flat()", x.count(8), 0);
            check.due("undo()", x.undo(), NONE);
            x.turn(1);
            check.due("then they are kept again", x.undo(), 0);
        });
    }
}
