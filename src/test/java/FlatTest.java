import java.util.NoSuchElementException;

/** Promises 1 to 8: a new object, sign, end, flat, rule, spot, machine, sheet. */
public final class FlatTest {
    private static final Check check = new Check();

    public static void main(String[] args) {
        newObject();
        signsAndEnd();
        flatsThatStand();
        flatsThatCannotStand();
        flatForgets();
        rulesThatStand();
        ruleThings();
        rulesThatCannotStand();
        longRules();
        spots();
        machine();
        sheets();
        check.close("FlatTest");
    }

    private static void newObject() {
        UnderTheSofa x = new UnderTheSofa();
        int[] counts = {1, 1, 1, 0, 0, -1, 0, 0, 0, 0, 0};
        for (int what = 0; what < counts.length; what++) {
            check.due("new, count(" + what + ")", x.count(what), counts[what]);
        }
        int[] machine = {0, 0, 100, 0, 0, 0, 1, -1};
        for (int what = 0; what < machine.length; what++) {
            check.due("new, machine(" + what + ")", x.machine(what), machine[what]);
        }
        int[] spot = {1, 0, 0, 0, 1, 1};
        for (int what = 0; what < spot.length; what++) {
            check.due("new, spot(0, " + what + ")", x.spot(0, what), spot[what]);
        }
        check.due("NONE", UnderTheSofa.NONE, -1);
    }

    private static void signsAndEnd() {
        UnderTheSofa x = new UnderTheSofa();
        for (int i = 1; i <= 20; i++) {
            check.due("sign " + i, x.sign(-1), 4 * i);
        }
        check.due("sign 21", x.sign(0), -1);
        check.due("signs then", x.count(10), 80);
        check.due("end(81)", x.end(81), false);
        check.due("end(-1)", x.end(-1), false);
        check.due("signs yet", x.count(10), 80);
        check.due("end(80)", x.end(80), true);
        check.due("end(78)", x.end(78), true);
        check.due("sign behind 78", x.sign(0), -1);
        check.due("signs behind that", x.count(10), 78);
        check.due("end(76)", x.end(76), true);
        check.due("sign behind 76", x.sign(0), 80);
        check.due("end(0)", x.end(0), true);
        check.due("end(0) again", x.end(0), true);
        check.due("end(1) of none", x.end(1), false);
        x.sign('#' << 24 | 'r' << 16 | '.' << 8 | 'p');
        check.due("#r.p", x.flat(), 3);
        int[] kinds = {0, 2, 1, 1};
        for (int spot = 0; spot < 4; spot++) {
            check.due("highest byte first, spot " + spot, x.spot(spot, 0), kinds[spot]);
        }
        x.sign(0xff000000);
        check.due("a sign above 127", x.flat(), -1);
    }

    private static void flatsThatStand() {
        UnderTheSofa x = new UnderTheSofa();
        check.due("the greatest", Check.flat(x, "....../....../....../....../....../......"), 36);
        check.due("its rows", x.count(0), 6);
        check.due("its columns", x.count(1), 6);
        check.due("its plug", x.count(5), -1);
        check.due("p.r/.#./...", Check.flat(x, "p.r/.#./..."), 8);
        check.due("its plug", x.count(5), 0);
        check.due("#./rq", Check.flat(x, "#./rq"), 3);
        check.due("its plug", x.count(5), 3);
        check.due("it begins at the plug", x.machine(0), 3);
        check.due("q is a rug", x.spot(3, 0), 2);
        check.due("##/#.", Check.flat(x, "##/#."), 1);
        check.due("it begins at the first that is no wall", x.machine(0), 3);
        check.due("a row of one column", Check.flat(x, "./././././."), 6);
        check.due("rows", x.count(0), 6);
        check.due("columns", x.count(1), 1);
    }

    private static void flatsThatCannotStand() {
        String[] texts = {"", "x", ".x", ".......", "......./x", "../...", "../.", "../", "/..", "..//", "../../", ".././..",
            "pp", "p/q", "q.p", "./././././.", "./././././x", "#", "##/##", "##/#x", "##/#",
            "....../....../....../....../....../.......", "....../....../....../....../....../....../",
            "....../....../....../....../....../.....", "....../....../....../....../....../.....#/####", "..\u0000", "R"};
        int[] due = {-1, -1, -2, -7, -7, -6, -5, -4, -1, -4, -7, -5,
            -2, -3, -3, 6, -11, -100, -100, -5, -5,
            -42, -42,
            -41, -42, -3, -1};
        for (int i = 0; i < texts.length; i++) {
            UnderTheSofa x = Check.in("p.");
            check.due("flat " + texts[i], Check.flat(x, texts[i]), due[i]);
            check.due("the text is empty then", x.count(10), 0);
            check.due("columns then", x.count(1), due[i] < 0 ? 2 : 1);
        }
        UnderTheSofa x = Check.in("./././././.");
        Check.tell(x, "./././././.");
        x.sign('/' << 24 | '.' << 16);
        x.end(12);
        check.due("a / behind the sixth row", x.flat(), -12);
    }

    private static void flatForgets() {
        UnderTheSofa x = Check.in("p...");
        Check.rule(x, "3");
        x.days(2);
        x.turn(1);
        x.steps(2);
        x.chair(3);
        x.felt(0);
        x.keep(1);
        check.due("a flat that can't stand", Check.flat(x, "p.x"), -3);
        check.due("day yet", x.count(6), 2);
        check.due("chairs yet", x.count(3), 1);
        check.due("felt yet", x.count(7), 1);
        check.due("undo yet", x.count(8), 4);
        check.due("all wall", Check.flat(x, "###"), -100);
        check.due("dust yet", x.count(4), 4);
        check.due("box yet", x.machine(3), 4);
        x.end(0);
        x.steps(1);
        check.due("a new flat", Check.flat(x, "..p."), 4);
        int[] machine = {2, 0, 100, 0, 0, 0, 3, -1};
        for (int what = 0; what < machine.length; what++) {
            check.due("anew, machine(" + what + ")", x.machine(what), machine[what]);
        }
        int[] counts = {1, 4, 4, 0, 0, 2, 0, 0, 0};
        for (int what = 0; what < counts.length; what++) {
            check.due("anew, count(" + what + ")", x.count(what), counts[what]);
        }
        check.due("nothing is kept", x.again(1), false);
        check.row("the row stays", x, 0, 1);
    }

    private static void rulesThatStand() {
        String[] rules = {"", "0", "1", "5", "007", "999", "-1", "--1", "---1", "7/2", "-7/2", "7/-2", "1/0", "0/0", "5/(3-3)+2",
            "1-1-1", "8/4/2", "1+2*3", "2*3+1", "6-2*2", "1<2", "2<1", "2>1", "1>2", "2=2", "2=1", "1+1=2", "0-1<0", "2*(1+2)", "((((3))))",
            "(1<2)<3", "1<(2<3)", "(1<2)+(3>2)", "-(1+2)", "2*-3", "2--3", "-2*-3", "-b-1", "999*999*999*999", "-9*999*999*999*999",
            "(1+(1+(1+(1))))", "(1)", "3-(2<1)", "9*(1=1)"};
        int[] due = {1, 0, 1, 1, 3, 3, 3, 1, 3, 3, 1, 1, 0, 0, 2,
            3, 1, 3, 3, 2, 1, 0, 1, 0, 1, 0, 1, 1, 2, 3,
            1, 0, 2, 1, 2, 1, 2, 3, turn(999 * 999 * 999 * 999), turn(-9 * 999 * 999 * 999 * 999),
            0, 1, 3, 1};
        UnderTheSofa x = new UnderTheSofa();
        for (int i = 0; i < rules.length; i++) {
            check.due("rule " + rules[i], Check.rule(x, rules[i]), 0);
            check.due("the text is empty then", x.count(10), 0);
            check.due("turn by " + rules[i], x.machine(6), due[i]);
        }
    }

    private static int turn(int value) {
        return value % 4 < 0 ? value % 4 + 4 : value % 4;
    }

    private static void ruleThings() {
        UnderTheSofa x = Check.in("..r/...");
        x.carry(2, 1);
        x.sheet(2, 6, 3, 13);
        String[] rules = {"h", "s", "r", "d", "d/10", "b"};
        int[] due = {1, 2, 1, 29 % 4, 2, 0};
        for (int i = 0; i < rules.length; i++) {
            Check.rule(x, rules[i]);
            check.due("turn by " + rules[i], x.machine(6), due[i]);
        }
        x.carry(1, 2);
        Check.rule(x, "r");
        check.due("no rug", x.machine(6), 0);
        Check.rule(x, "b");
        UnderTheSofa y = new UnderTheSofa();
        Check.rule(y, "b");
        int heading = 0;
        for (int bumps = 0; bumps < 12; bumps++) {
            check.due("b ahead of bump " + bumps, y.machine(6), bumps % 8 % 4);
            y.steps(1);
            heading = (heading + bumps % 8) % 4;
            check.due("heading behind bump " + bumps, y.machine(1), heading);
        }
        Check.rule(y, "b/4");
        check.due("b is bumps by 8, rest", y.machine(6), 1);
    }

    private static void rulesThatCannotStand() {
        String[] rules = {"1<2<3", "1=2>0", "(1<2=3)", "1234", "1 ", "+1", "*1", "1+", "(", "()", "(1", "1)", "(((((1", "2b", "b2", "bh", "x",
            "1-*2", "(1)2", "(1)(2)", "-", "1<", "1+2<3+4<5", "(1))", "1/", "B", "1\u00e9", ")"};
        int[] due = {-4, -4, -5, -4, -2, -1, -1, -3, -2, -2, -3, -2, -5, -2, -2, -2, -1,
            -3, -4, -4, -2, -3, -8, -4, -3, -1, -2, -1};
        UnderTheSofa x = new UnderTheSofa();
        Check.rule(x, "2");
        for (int i = 0; i < rules.length; i++) {
            check.due("rule " + rules[i], Check.rule(x, rules[i]), due[i]);
            check.due("the text is empty then", x.count(10), 0);
            check.due("the old rule stays", x.machine(6), 2);
        }
    }

    private static void longRules() {
        UnderTheSofa x = new UnderTheSofa();
        String minuses = "-".repeat(80);
        check.due("40 signs", Check.rule(x, minuses.substring(0, 39) + "1"), 0);
        check.due("turn by them", x.machine(6), 3);
        check.due("41 signs", Check.rule(x, minuses.substring(0, 40) + "1"), -41);
        check.due("40 that end too early", Check.rule(x, minuses.substring(0, 40)), -41);
        check.due("41 of which 40 could end", Check.rule(x, minuses.substring(0, 39) + "11"), -41);
        check.due("41 of which the last can't stand", Check.rule(x, minuses.substring(0, 39) + "1x"), -41);
        check.due("80 signs", Check.rule(x, minuses), -41);
        check.due("80 with a wrong one at 5", Check.rule(x, minuses.substring(0, 5) + "x" + minuses.substring(0, 74)), -6);
        check.due("80 with a wrong one at 39", Check.rule(x, minuses.substring(0, 39) + "x" + minuses.substring(0, 40)), -40);
        check.due("the old rule stays", x.machine(6), 3);
        check.due("20 things", Check.rule(x, "1+1+1+1+1+1+1+1+1+1+1+1+1+1+1+1+1+1+1+2"), 0);
        check.due("turn by them", x.machine(6), 1);
    }

    private static void spots() {
        UnderTheSofa x = Check.in("p.r/.#.");
        x.days(3);
        x.chair(2);
        int[][] due = {{1, 0, 3, 1, 1, 1}, {1, 0, 3, 0, 0, 1}, {2, 1, 6, 0, 0, 0}, {1, 0, 3, 0, 0, 1}, {0, 0, 0, 0, 0, 0}, {1, 0, 3, 0, 0, 1}};
        for (int spot = 0; spot < 6; spot++) {
            for (int what = 0; what < 6; what++) {
                check.due("spot(" + spot + ", " + what + ")", x.spot(spot, what), due[spot][what]);
            }
        }
        int[][] others = {{-1, 0}, {6, 0}, {0, -1}, {0, 6}, {Integer.MIN_VALUE, 0}, {Integer.MAX_VALUE, 0}, {0, Integer.MIN_VALUE}};
        for (int[] other : others) {
            int thrown = 0;
            try {
                x.spot(other[0], other[1]);
            } catch (NoSuchElementException e) {
                thrown = 1;
            }
            check.due("spot(" + other[0] + ", " + other[1] + ") throws", thrown, 1);
        }
    }

    private static void machine() {
        UnderTheSofa x = Check.in("p.r/.#.");
        x.sheet(2, 6, 4, 1);
        x.steps(5);
        int[] due = {5, 2, 93, 5 + 6 + 9, 5, 2, 1, -1};
        for (int what = 0; what < due.length; what++) {
            check.due("machine(" + what + ")", x.machine(what), due[what]);
        }
        x.turn(1);
        check.due("a wall inside is ahead", x.machine(7), 4);
        x.turn(1);
        check.due("a spot is ahead", x.machine(7), 2);
        for (int what : new int[] {-1, 8, Integer.MIN_VALUE, Integer.MAX_VALUE}) {
            int thrown = 0;
            try {
                x.machine(what);
            } catch (NoSuchElementException e) {
                thrown = 1;
            }
            check.due("machine(" + what + ") throws", thrown, 1);
        }
    }

    private static void sheets() {
        UnderTheSofa x = Check.in(".#./..r");
        check.due("ints", x.sheet(2, 6, 1, 1), 1 + 3 + 4 + 5 + 6);
        int[] dust = {1, 0, 3, 4, 5, 6};
        for (int spot = 0; spot < 6; spot++) {
            check.due("dust of " + spot, x.spot(spot, 2), dust[spot]);
        }
        check.due("above 99", x.sheet(2, 3, 50, 60), 50 + 99);
        check.due("spots behind it have 0", x.spot(3, 2), 0);
        check.due("below 0", x.sheet(2, 6, -3, 2), 0 + 1 + 3 + 5 + 7);
        check.due("bytes with their sign", x.sheet(0, 6, 100, 30), 99);
        check.due("bytes' lowest bits", x.sheet(0, 6, 256 * 77 + 9, 256), 9 * 5);
        check.due("shorts with their sign", x.sheet(1, 6, 32764, 2), 99);
        check.due("shorts' lowest bits", x.sheet(1, 1, 65536 * 5 + 7, 0), 7);
        check.due("ints' bits are all there", x.sheet(2, 1, 65536 * 5 + 7, 0), 99);
        check.due("ints that go round", x.sheet(2, 6, Integer.MAX_VALUE, 1), 99);
        check.due("more entries than spots", x.sheet(2, 36, 2, 0), 10);
        check.due("n below 0", x.sheet(0, -1, 1, 1), -2);
        check.due("n far below 0", x.sheet(2, Integer.MIN_VALUE, 1, 1), -2);
        check.due("nothing changes", x.count(4), 10);
        check.due("another kind", x.sheet(4, -1, 0, 0), -1);
        check.due("another kind", x.sheet(-1, 3, 0, 0), -1);
        check.due("n above 36", x.sheet(2, 37, 0, 0), -1);
        check.due("n above 36, missing", x.sheet(3, 37, 0, 0), -1);
        check.due("nothing changes", x.count(4), 10);
        check.due("missing", x.sheet(3, -1, 5, 5), -3);
        check.due("all 0", x.count(4), 0);
        x.sheet(2, 6, 1, 0);
        check.due("no entries", x.sheet(1, 0, 5, 5), 0);
        check.due("all 0", x.count(4), 0);
        check.due("a sheet is not undone", x.undo(), -1);
    }
}
