import java.util.LinkedHashMap;
import java.util.List;
import java.util.Map;
import java.util.function.Function;

/** The terms, sentence by sentence, and what binds all calls: questions change nothing, nor do refused calls. */
public final class TermsEdgesTest extends Edges {
    private static final String TERMS = "Terms";

    public static void main(String[] args) {
        TermsEdgesTest test = new TermsEdgesTest();
        test.theFlat();
        test.theMachine();
        test.theRule();
        test.theRulesThings();
        test.aStep();
        test.rows();
        test.questions();
        test.refusedCalls();
        test.headings();
        test.calls();
        test.close(TERMS);
    }

    private void theFlat() {
        edge(TERMS, "THE FLAT: ROWS 1 .. 6 of as many SPOTS each, 1 .. 6 (COLUMNS);", check -> {
            for (int rows = 1; rows <= 7; rows++) {
                for (int columns = 1; columns <= 7; columns++) {
                    UnderTheSofa x = new UnderTheSofa();
                    String text = (".".repeat(columns) + "/").repeat(rows);
                    boolean stands = rows < 7 && columns < 7;
                    int answer = flat(x, text.substring(0, text.length() - 1));
                    check.due(rows + " by " + columns + " stands", answer > 0, stands);
                    check.due("rows", x.count(0), stands ? rows : 1);
                    check.due("columns", x.count(1), stands ? columns : 1);
                }
            }
        });
        edge(TERMS, "SPOT r * COLUMNS + c is that of ROW r, COLUMN c (each from 0 on).", check -> {
            UnderTheSofa x = in("...r/..#./.r..");
            for (int spot = 0; spot < 12; spot++) {
                check.due("kind of " + spot, x.spot(spot, 0), spot == 3 || spot == 9 ? 2 : spot == 6 ? 0 : 1);
            }
        });
        edge(TERMS, "A SPOT is a WALL, BARE, or a RUG; one of those that are no WALL may be the PLUG;", check -> {
            check.due("bare", in(".p").count(5), 1);
            check.due("a rug", in("rq").count(5), 1);
            check.due("none", in(".r#").count(5), NONE);
        });
        edge(TERMS, "on each that is no WALL a CHAIR may stand (at first none).", check -> {
            UnderTheSofa x = in(".rp#.");
            check.due("at first", x.count(3), 0);
            check.due("bare", x.chair(0), 1);
            check.due("a rug", x.chair(1), 2);
            x.carry(4, 0);
            check.due("the plug", x.chair(2), 3);
            check.due("a wall", x.chair(3), -2);
        });
        edge(TERMS, "FREE is one that is no WALL and has no CHAIR; outside is as WALL.", check -> {
            UnderTheSofa x = in(".r#p");
            x.chair(1);
            int[] free = {1, 0, 0, 1};
            for (int spot = 0; spot < 4; spot++) {
                check.due("free " + spot, x.spot(spot, 5), free[spot]);
            }
            int[][] corners = {{0, 0}, {0, 3}, {1, 0}, {1, 1}, {2, 2}, {2, 3}, {3, 1}, {3, 2}};
            for (int[] corner : corners) {
                UnderTheSofa y = in("../..", corner[0], corner[1]);
                y.steps(1);
                check.row("it strikes from " + corner[0] + " by " + corner[1], y, 0, 1);
                check.due("it stays", y.machine(0), corner[0]);
            }
        });
        edge(TERMS, "It is told by a text of at most 41 signs: ROWS with / between, of each its SPOTS:", check -> {
            check.due("41 signs", flat(new UnderTheSofa(), GREATEST), 36);
            check.due("42 signs", flat(new UnderTheSofa(), GREATEST + "."), -42);
            check.due("42 signs", flat(new UnderTheSofa(), GREATEST + "/"), -42);
        });
        edge(TERMS, "# (a WALL), . (BARE), r (a RUG), p (BARE, the PLUG), q (a RUG, the PLUG). At first .", check -> {
            String[] flats = {"#.", "..", "r.", "p.", "q."};
            int[] kinds = {0, 1, 2, 1, 2};
            for (int i = 0; i < flats.length; i++) {
                UnderTheSofa x = in(flats[i]);
                check.due(flats[i] + ", kind", x.spot(0, 0), kinds[i]);
                check.due(flats[i] + ", plug", x.count(5), i >= 3 ? 0 : NONE);
            }
            check.due("at first bare", new UnderTheSofa().spot(0, 0), 1);
            check.due("at first no plug", new UnderTheSofa().count(5), NONE);
        });
    }

    private void theMachine() {
        edge(TERMS, "DUST of a SPOT that is no WALL: 0 .. 99 (at first 0).", check -> {
            UnderTheSofa x = in(".r#");
            check.due("at first", x.count(4), 0);
            for (int i = 0; i < 4; i++) {
                x.days(30);
            }
            check.due("bare", x.spot(0, 2), 99);
            check.due("a rug", x.spot(1, 2), 99);
            check.due("a wall", x.spot(2, 2), 0);
        });
        edge(TERMS, "THE MACHINE: SPOT, HEADING (0 up, to the ROW ahead; 1 to the right; 2 down; 3 to the left; at first 0),", check -> {
            check.due("at first", new UnderTheSofa().machine(1), 0);
            int[] next = {1, 5, 7, 3};
            for (int heading = 0; heading < 4; heading++) {
                UnderTheSofa x = in(".../.../...", 4, heading);
                x.steps(1);
                check.due("by " + heading, x.machine(0), next[heading]);
                check.due("it goes on by it", x.machine(1), heading);
            }
        });
        edge(TERMS, "CURRENT 0 .. 999 (at first 100), BOX (at first 0), STEPS, BUMPS (at first 0). DAY (at first 0).", check -> {
            UnderTheSofa x = new UnderTheSofa();
            check.due("current", x.machine(2), 100);
            check.due("box", x.machine(3), 0);
            check.due("steps", x.machine(4), 0);
            check.due("bumps", x.machine(5), 0);
            check.due("day", x.count(6), 0);
            UnderTheSofa y = in("p.");
            y.load(999);
            check.due("the most", y.machine(2), 999);
            check.due("more", y.load(1000), NONE);
            for (int i = 0; i < 5; i++) {
                y.steps(200);
            }
            check.due("the least", y.machine(2), 0);
            check.due("999 steps were done", y.machine(4), 999);
        });
    }

    private void theRule() {
        edge(TERMS, "THE RULE is a text of at most 40 signs (at first none: 1).", check -> {
            check.due("at first", new UnderTheSofa().machine(6), 1);
            check.due("40 signs", turnBy("1+".repeat(19) + "10"), 1);
            check.due("40 signs of which all count", turnBy("1+".repeat(19) + "12"), 3);
            check.due("41 signs", turnBy("1+".repeat(20) + "1"), -41);
            check.due("three signs, a stack of things", turnBy("1+(2*(3-(4/(5)))-(6<7))"), (1 + 2 * 3 - 1) % 4);
        });
        edge(TERMS, "EXPRESSION: < > = bind least (two; 1 or 0; not one behind the other),", check -> {
            String[] rules = {"1<2", "2<2", "3<2", "1>2", "2>2", "3>2", "1=2", "2=2", "1+1<3", "2*2>1+2", "2+2=2*2", "3<1+1", "-1<0", "0>-1", "3-(1<2)", "(1<2)=1",
                "2*(3>2)+1"};
            int[] due = {1, 0, 0, 0, 0, 1, 0, 1, 1, 1, 1, 0, 1, 1, 2, 1, 3};
            for (int i = 0; i < rules.length; i++) {
                check.due("turn by " + rules[i], turnBy(rules[i]), due[i]);
            }
            for (String rule : new String[] {"1<2<3", "1<2>3", "1=2=3", "1>2+0=1", "1=1*1<1"}) {
                check.due("rule " + rule, turnBy(rule), -1 - rule.replaceAll("[<>=][^<>=]*$", "").length());
            }
            check.due("one behind the other in brackets", turnBy("(1<2<3)"), -5);
        });
        edge(TERMS, "then + - (from the left),", check -> {
            check.due("3-1-1", turnBy("3-1-1"), 1);
            check.due("3-1+1", turnBy("3-1+1"), 3);
            check.due("9-(3-1)-1=6", turnBy("9-(3-1)-1=6"), 1);
            check.due("1+2*3=7", turnBy("1+2*3=7"), 1);
            check.due("2*3-1=5", turnBy("2*3-1=5"), 1);
        });
        edge(TERMS, "then * / (from the left; by 0: 0; cut to 0),", check -> {
            String[] rules = {"12/2/3=2", "12/2*3=18", "2*7/4=3", "7/4*2=2", "1/0", "3/0=0", "0/0=0", "-3/0=0", "5/(2-2)=0", "2+3/0=2", "7/2=3", "-7/2=-3", "7/-2=-3",
                "-7/-2=3", "-1/2=0", "1/-2=0", "3/4=0", "-3/4=0"};
            for (String rule : rules) {
                check.due("turn by " + rule, turnBy(rule), rule.equals("1/0") ? 0 : 1);
            }
        });
        edge(TERMS, "then - ahead of a thing (any many);", check -> {
            String[] rules = {"-1=0-1", "--1=1", "---1=0-1", "2--1=3", "2---1=1", "-2*3=0-6", "2*-3=0-6", "-(1+2)=0-3", "--(2)=2", "-b=0", "1+-2=0-1", "6/-3=0-2", "-1<--1"};
            for (String rule : rules) {
                check.due("turn by " + rule, turnBy(rule), 1);
            }
            check.due("38 of them", turnBy("-".repeat(38) + "1"), 1);
            check.due("39 of them", turnBy("-".repeat(39) + "1"), 3);
        });
        edge(TERMS, "things: a NUMBER of 1 to 3 digits,", check -> {
            check.due("one", turnBy("7=7"), 1);
            check.due("two", turnBy("42/10=4"), 1);
            check.due("three", turnBy("999=333*3"), 1);
            check.due("noughts ahead", turnBy("007=7"), 1);
            check.due("noughts alone", turnBy("000"), 0);
            check.due("four", turnBy("1000"), -4);
            check.due("four noughts", turnBy("0000"), -4);
            check.due("four behind a sign", turnBy("1+2345"), -6);
        });
        edge(TERMS, "an EXPRESSION in ( ) (at most 4 in one another),", check -> {
            check.due("four", turnBy("((((3))))"), 3);
            check.due("five", turnBy("(((((3)))))"), -5);
            check.due("four behind four", turnBy("((((1))))+((((2))))"), 3);
            check.due("five behind four", turnBy("((((1))))+(((((2)))))"), -15);
            check.due("many beside one another", turnBy("(1)+(1)+(1)+(1)+(1)+(1)+(1)"), 3);
            check.due("four that begin late", turnBy("1+(1+(1+(1+(1))))"), 1);
            check.due("five that begin late", turnBy("1+(1+(1+(1+(1+(1)))))"), -15);
        });
    }

    private void theRulesThings() {
        edge(TERMS, "and, as THE MACHINE strikes: b BUMPS by 8 (rest; ahead of that one),", check -> {
            UnderTheSofa x = new UnderTheSofa();
            int heading = 0;
            for (int bumps = 0; bumps < 20; bumps++) {
                for (int k = 0; k < 8; k++) {
                    rule(x, "b=" + k);
                    check.due("b=" + k + " ahead of bump " + bumps, x.machine(6), bumps % 8 == k ? 1 : 0);
                }
                rule(x, "b");
                x.steps(1);
                heading = (heading + bumps % 8) % 4;
                check.due("heading behind bump " + bumps, x.machine(1), heading);
            }
        });
        edge(TERMS, "h HEADING, s its SPOT, r 1 on a RUG, else 0, d DUST of its SPOT.", check -> {
            UnderTheSofa x = in(".q/r.");
            x.sheet(2, 4, 31, 1);
            for (int spot = 0; spot < 4; spot++) {
                for (int h = 0; h < 4; h++) {
                    x.carry(spot, h);
                    rule(x, "h");
                    check.due("h", x.machine(6), h);
                    rule(x, "s");
                    check.due("s", x.machine(6), spot);
                    rule(x, "r");
                    check.due("r", x.machine(6), spot == 1 || spot == 2 ? 1 : 0);
                    rule(x, "d=" + (31 + spot));
                    check.due("d", x.machine(6), 1);
                }
            }
            UnderTheSofa y = in("..");
            rule(y, "2+d");
            y.sheet(2, 2, 1, 0);
            check.due("2+d where it stands in dust", y.machine(6), 3);
            y.turn(1);
            y.steps(2);
            check.due("it has had the dust of its spot ahead of striking", y.machine(1), 3);
        });
        edge(TERMS, "As ints;", check -> {
            check.due("beyond the greatest", turnBy("999*999*999*3<0"), 1);
            check.due("the sum too", turnBy("999*999*999*2+999*999*999<0"), 1);
            check.due("below the least", turnBy("-999*999*999*2-999*999*999>0"), 1);
            check.due("the least, negated", turnBy("-(512*512*512*16)<0"), 1);
            check.due("the least by -1", turnBy("512*512*512*16/-1<0"), 1);
            check.due("the least", turnBy("512*512*512*16-1>0"), 1);
        });
        edge(TERMS, "by 4, rest, 0 .. 3 (4 more, if it is below 0): TURN, so many quarters to the right.", check -> {
            for (int v = -9; v <= 9; v++) {
                String rule = v < 0 ? "-" + -v : "" + v;
                check.due("turn by " + rule, turnBy(rule), (v + 12) % 4);
                UnderTheSofa x = new UnderTheSofa();
                rule(x, rule);
                x.steps(1);
                check.due("heading behind striking by " + rule, x.machine(1), (v + 12) % 4);
            }
            check.due("turn by 999", turnBy("999"), 3);
            check.due("turn by -999", turnBy("-999"), 1);
            check.due("turn by the least int", turnBy("512*512*512*16"), 0);
        });
    }

    private void aStep() {
        edge(TERMS, "A STEP: its COST is 2 on a RUG (where it begins), else 1;", check -> {
            UnderTheSofa x = in(".r.", 0, 1);
            rule(x, "2");
            int[] left = {99, 97, 96, 95, 93, 92, 91};
            for (int i = 0; i < left.length; i++) {
                x.steps(1);
                check.due("current behind step " + (i + 1), x.machine(2), left[i]);
            }
            UnderTheSofa y = in("r");
            y.steps(1);
            check.due("striking costs as much", y.machine(2), 98);
            UnderTheSofa z = in("q");
            z.steps(1);
            check.due("a plug on a rug too", z.machine(2), 98);
        });
        edge(TERMS, "if CURRENT is less than COST, nothing is done (it is OUT).", check -> {
            UnderTheSofa x = in("q.");
            x.days(1);
            x.load(1);
            x.turn(1);
            check.due("1 on a rug", x.steps(1), 0);
            check.row("1 on a rug", x, 0, 0);
            check.due("spot", x.machine(0), 0);
            check.due("current", x.machine(2), 1);
            check.due("steps", x.machine(4), 0);
            check.due("box", x.machine(3), 0);
            x.carry(1, 1);
            check.due("1 where it is bare", x.steps(2), 1);
            check.due("current", x.machine(2), 0);
            check.due("bumps", x.machine(5), 1);
            check.due("0 where it is bare", x.steps(2), 0);
            check.due("heading", x.machine(1), 2);
            check.due("bumps", x.machine(5), 1);
            UnderTheSofa y = in("q.");
            y.load(2);
            check.due("2 on a rug", y.steps(2), 1);
            check.due("current", y.machine(2), 0);
        });
        edge(TERMS, "Else CURRENT is COST less, STEPS 1 more;", check -> {
            UnderTheSofa x = in(".r", 0, 1);
            int[] current = {99, 97, 95, 93};
            for (int i = 0; i < current.length; i++) {
                x.steps(1);
                check.due("current", x.machine(2), current[i]);
                check.due("steps", x.machine(4), i + 1);
            }
        });
        edge(TERMS, "if the SPOT ahead is FREE, it goes there, and its DUST there comes into BOX (DUST is 0 then);", check -> {
            UnderTheSofa x = in("...", 0, 1);
            x.sheet(2, 3, 97, 1);
            x.steps(1);
            check.due("spot", x.machine(0), 1);
            check.due("box", x.machine(3), 98);
            check.due("dust there", x.spot(1, 2), 0);
            check.due("dust where it was", x.spot(0, 2), 97);
            x.steps(1);
            check.due("box", x.machine(3), 98 + 99);
            check.due("dust left", x.count(4), 97);
        });
        edge(TERMS, "else it strikes: HEADING is TURN more (by 4, rest), BUMPS 1 more.", check -> {
            String[] flats = {".", ".#", ".."};
            for (String flat : flats) {
                for (int turn = 0; turn < 4; turn++) {
                    UnderTheSofa x = in(flat);
                    x.days(1);
                    if (flat.equals("..")) {
                        x.chair(1);
                    }
                    x.turn(flat.equals(".") ? 3 : 1);
                    int heading = x.machine(1);
                    rule(x, "" + turn);
                    check.due("a step in " + flat, x.steps(1), 1);
                    check.due("heading", x.machine(1), (heading + turn) % 4);
                    check.due("bumps", x.machine(5), 1);
                    check.due("spot", x.machine(0), 0);
                    check.due("box", x.machine(3), 0);
                    check.due("steps", x.machine(4), 1);
                    check.due("dust stays", x.spot(0, 2), 1);
                }
            }
        });
    }

    private void rows() {
        edge(TERMS, "ROW: numbers told last by a call that says so.", check -> {
            UnderTheSofa x = in("p..");
            check.row("at first", x);
            x.turn(1);
            x.steps(2);
            check.row("steps", x, 0, 0);
            x.been(1);
            check.row("been", x, 4, 2, 97);
            x.turn(1);
            x.days(2);
            x.chair(1);
            x.carry(2, 1);
            x.undo();
            x.meets();
            x.back();
            x.felt(1);
            x.swung(1);
            x.forget();
            x.sheet(2, 3, 1, 0);
            x.keep(0);
            x.again(0);
            rule(x, "2");
            check.row("calls that say nothing of it", x, 4, 2, 97);
            flat(x, "..");
            check.row("flat neither", x, 4, 2, 97);
            x.best(0);
            check.row("a row of none", x);
            allQuestions().forEach((name, question) -> {
                UnderTheSofa y = lived();
                UnderTheSofa once = lived();
                y.angle();
                once.looks();
                question.apply(y);
                question.apply(y);
                boolean tells = question.apply(once) >= 0 && !name.matches("(meets|back|spot|machine|count).*");
                check.due(name + " tells its numbers alone", tells ? seen(y).equals(seen(once)) : y.count(9) == 4, true);
            });
        });
        edge(TERMS, "Sets of SPOTS are bits of longs (SPOT k is bit k).", check -> {
            for (int spot = 0; spot < 36; spot++) {
                UnderTheSofa x = in(GREATEST, spot, 0);
                x.been(0);
                check.row("been at " + spot, x, 1L << spot, spot, 100);
            }
            UnderTheSofa y = in(GREATEST);
            y.held();
            check.row("all", y, (1L << 36) - 1, 144);
        });
        edge(TERMS, "Rows are compared from the first number on.", check -> {
            UnderTheSofa x = in(".../.../...");
            x.way(0, 8);
            check.row("the first differs first", x, 0, 1, 2, 5, 8);
            UnderTheSofa y = in(".rr./....");
            y.way(0, 3);
            check.row("a row of fewer numbers is no less for that", y, 0, 1, 2, 3);
            UnderTheSofa z = in("..../.rr.");
            z.way(7, 4);
            check.row("nor is it greater", z, 7, 3, 2, 1, 0, 4);
        });
        edge(TERMS, "Fractions are told in lowest terms, upper and lower number (0 by 1).", check -> {
            UnderTheSofa x = in("..");
            x.likely(1, 0);
            check.row("3 by 4", x, 3, 4);
            x.likely(2, 0);
            check.row("10 by 16", x, 5, 8);
            x.likely(0, 1);
            check.row("none", x, 0, 1);
            x.likely(0, 0);
            check.row("all", x, 1, 1);
            x.sheet(2, 2, 5, 0);
            x.clean(1);
            check.row("none of two", x, 0, 1);
            x.clean(2);
            check.row("none of one", x, 0, 1);
        });
    }

    /** A flat with all that there can be: chairs, dust, a way that was gone, things that were felt, kept, and can be undone. */
    private static UnderTheSofa lived() {
        UnderTheSofa x = in("p.r./.#../r..r");
        x.days(2);
        x.keep(0);
        x.turn(1);
        x.steps(3);
        x.chair(5);
        x.keep(2);
        x.carry(8, 0);
        x.felt(1);
        x.swung(1);
        x.days(1);
        x.steps(2);
        rule(x, "1+b-r*2");
        x.been(3);
        return x;
    }

    private static Map<String, Function<UnderTheSofa, Integer>> allQuestions() {
        Map<String, Function<UnderTheSofa, Integer>> asked = new LinkedHashMap<>();
        asked.put("been(200)", x -> x.been(200));
        asked.put("been(0)", x -> x.been(0));
        asked.put("all()", x -> x.all());
        asked.put("never()", x -> x.never());
        asked.put("angle()", x -> x.angle());
        asked.put("meets()", x -> x.meets());
        asked.put("round()", x -> x.round());
        asked.put("corner(999)", x -> x.corner(999));
        asked.put("way(8, 0)", x -> x.way(8, 0));
        asked.put("way(8, 5)", x -> x.way(8, 5));
        asked.put("back()", x -> x.back());
        asked.put("plug()", x -> x.plug());
        asked.put("doors()", x -> x.doors());
        asked.put("chairs()", x -> x.chairs());
        asked.put("best(6)", x -> x.best(6));
        asked.put("held()", x -> x.held());
        asked.put("feel()", x -> x.feel());
        asked.put("likely(10, 3)", x -> x.likely(10, 3));
        asked.put("week(3, 2)", x -> x.week(3, 2));
        asked.put("looks()", x -> x.looks());
        asked.put("box(7)", x -> x.box(7));
        asked.put("clean(2)", x -> x.clean(2));
        asked.put("rests(4)", x -> x.rests(4));
        asked.put("weeks(7, 60)", x -> x.weeks(7, 60));
        asked.put("spot(3, 2)", x -> x.spot(3, 2));
        asked.put("machine(6)", x -> x.machine(6));
        asked.put("count(8)", x -> x.count(8));
        return asked;
    }

    private void questions() {
        edge(TERMS, "Questions change nothing;", check -> {
            UnderTheSofa untouched = lived();
            untouched.looks();
            List<Long> due = emptied(untouched);
            allQuestions().forEach((name, question) -> {
                UnderTheSofa x = lived();
                question.apply(x);
                x.looks();
                check.due(name + " changes nothing", emptied(x).equals(due), true);
            });
        });
        edge(TERMS, "STEPS in them go on as STEPS do (DUST is had on the way);", check -> {
            UnderTheSofa x = in("...", 1, 3);
            rule(x, "2-2*(d>0)");
            x.sheet(2, 3, 5, 0);
            check.due("it turns by 2, as the dust of 0 is had", x.been(4), 3);
            check.row("it turns by 2, as the dust of 0 is had", x, 7, 2, 96);
            check.due("all()", x.all(), 4);
            check.due("corner(3)", x.corner(3), 0);
            check.due("round()", x.round(), 6);
            UnderTheSofa y = in("...", 2, 1);
            y.sheet(2, 3, 5, 0);
            rule(y, "2-2*(d>0)");
            check.due("it stands in dust and never turns", y.all(), -2);
            check.due("it stands in dust and never turns", y.never(), 2);
        });
        edge(TERMS, "where CURRENT is left aside, COST is 0.", check -> {
            UnderTheSofa x = out("p.r", 2, 3);
            check.due("it is out", x.machine(2), 0);
            check.due("been() goes by current", x.been(5), 1);
            check.due("all()", x.all(), 2);
            check.due("never()", x.never(), 0);
            check.due("angle()", x.angle(), 1);
            check.row("angle()", x, 2, 2, 2, 2);
            check.due("meets()", x.meets(), 2);
            check.due("round()", x.round(), 8);
            check.due("corner(2)", x.corner(2), 0);
            check.row("corner(2)", x, 1);
            x.sheet(2, 3, 4, 1);
            check.due("best(2)", x.best(2), 9);
            check.due("weeks()", x.weeks(0, 60) > 0, true);
        });
    }

    private static Map<String, Function<UnderTheSofa, Integer>> refusedOnes() {
        Map<String, Function<UnderTheSofa, Integer>> refused = new LinkedHashMap<>();
        refused.put("end(5)", x -> x.end(5) ? 1 : NONE);
        refused.put("end(-1)", x -> x.end(-1) ? 1 : NONE);
        refused.put("sheet(4, 1, 1, 1)", x -> x.sheet(4, 1, 1, 1));
        refused.put("sheet(2, 37, 1, 1)", x -> x.sheet(2, 37, 1, 1));
        refused.put("sheet(3, 37, 1, 1)", x -> x.sheet(3, 37, 1, 1));
        refused.put("steps(-1)", x -> x.steps(-1));
        refused.put("steps(201)", x -> x.steps(201));
        refused.put("turn(-1)", x -> x.turn(-1));
        refused.put("turn(4)", x -> x.turn(4));
        refused.put("days(0)", x -> x.days(0));
        refused.put("days(31)", x -> x.days(31));
        refused.put("chair(12)", x -> x.chair(12));
        refused.put("chair(-1)", x -> x.chair(-1));
        refused.put("carry(12, 0)", x -> x.carry(12, 0));
        refused.put("carry(0, 4)", x -> x.carry(0, 4));
        refused.put("carry(0, -1)", x -> x.carry(0, -1));
        refused.put("load(0)", x -> x.load(0));
        refused.put("load(1000)", x -> x.load(1000));
        refused.put("been(201)", x -> x.been(201));
        refused.put("been(-1)", x -> x.been(-1));
        refused.put("corner(0)", x -> x.corner(0));
        refused.put("corner(1000)", x -> x.corner(1000));
        refused.put("way(0, 12)", x -> x.way(0, 12));
        refused.put("way(-1, 0)", x -> x.way(-1, 0));
        refused.put("best(7)", x -> x.best(7));
        refused.put("best(-1)", x -> x.best(-1));
        refused.put("felt(2)", x -> x.felt(2));
        refused.put("felt(-1)", x -> x.felt(-1));
        refused.put("swung(0)", x -> x.swung(0));
        refused.put("swung(4)", x -> x.swung(4));
        refused.put("likely(11, 0)", x -> x.likely(11, 0));
        refused.put("likely(1, 12)", x -> x.likely(1, 12));
        refused.put("week(8, 1)", x -> x.week(8, 1));
        refused.put("week(1, 10)", x -> x.week(1, 10));
        refused.put("box(1000)", x -> x.box(1000));
        refused.put("clean(0)", x -> x.clean(0));
        refused.put("clean(12)", x -> x.clean(12));
        refused.put("rests(0)", x -> x.rests(0));
        refused.put("rests(100)", x -> x.rests(100));
        refused.put("weeks(1, 0)", x -> x.weeks(1, 0));
        refused.put("weeks(1, 61)", x -> x.weeks(1, 61));
        refused.put("keep(3)", x -> x.keep(3) ? 1 : NONE);
        refused.put("keep(-1)", x -> x.keep(-1) ? 1 : NONE);
        refused.put("again(1)", x -> x.again(1) ? 1 : NONE);
        refused.put("again(3)", x -> x.again(3) ? 1 : NONE);
        return refused;
    }

    private void refusedCalls() {
        edge(TERMS, "Refused calls answer NONE, or false, and change nothing but THE TEXT,", check -> {
            UnderTheSofa untouched = lived();
            tell(untouched, "s1t2");
            List<Long> due = emptied(untouched);
            refusedOnes().forEach((name, call) -> {
                UnderTheSofa x = lived();
                tell(x, "s1t2");
                check.due(name, call.apply(x), NONE);
                check.due(name + " changes nothing", emptied(x).equals(due), true);
            });
            UnderTheSofa once = lived();
            once.undo();
            check.due("undo() is none of these", emptied(once).equals(due), false);
        });
        edge(TERMS, "which a call that reads it empties.", check -> {
            List<Long> due = emptied(lived());
            Map<String, Function<UnderTheSofa, Integer>> readers = new LinkedHashMap<>();
            readers.put("flat()", x -> x.flat());
            readers.put("rule()", x -> x.rule());
            readers.put("run()", x -> x.run());
            readers.forEach((name, reader) -> {
                UnderTheSofa x = lived();
                tell(x, "x");
                check.due(name, reader.apply(x), -1);
                check.due("signs behind " + name, x.count(10), 0);
                check.due(name + " changes nothing else", emptied(x).equals(due), true);
            });
            UnderTheSofa walls = lived();
            check.due("all walls", flat(walls, "##"), -100);
            check.due("all walls change nothing else", emptied(walls).equals(due), true);
            UnderTheSofa y = new UnderTheSofa();
            tell(y, "..");
            y.flat();
            check.due("a flat that stands", y.count(10), 0);
            tell(y, "1");
            y.rule();
            check.due("a rule that stands", y.count(10), 0);
            tell(y, "s1");
            y.run();
            check.due("a run that stands", y.count(10), 0);
        });
    }

    private void headings() {
        edge(TERMS, "(from SPOT to neighbouring FREE SPOT, up, right, down, left; each costs as a STEP from where it begins; turning costs nothing)", check -> {
            int[] next = {1, 5, 7, 3};
            for (int to : next) {
                check.due("a way from 4 to " + to, in(".../.../...").way(4, to), 1);
            }
            check.due("no way aslant", in(".#/#.").way(0, 3), -2);
            check.due("none over the edge", in("..#/#..").way(1, 4), 1);
            check.due("none from a row's end to the next one's begin", in(".#./.#.").way(2, 3), -2);
            check.due("from a rug", in("r.").way(0, 1), 2);
            check.due("to a rug", in("r.").way(1, 0), 1);
            check.due("turning", in("../..").way(0, 3), 2);
        });
        edge(TERMS, "(somebody sits on the map's edge and hears it: places are a SPOT and a HEADING; all FREE SPOTS and HEADINGS at first;", check -> {
            UnderTheSofa x = in(".#./r.p");
            check.due("spots", x.held(), 5);
            check.row("places", x, 63 - 2, 20);
            x.chair(0);
            check.due("a chair less", x.held(), 4);
            check.row("a chair less", x, 63 - 3, 16);
        });
        edge(TERMS, "all by what is FREE when it is asked, not when it was felt).", check -> {
            UnderTheSofa x = in("...");
            check.due("it went", x.felt(0), 4);
            x.chair(1);
            check.due("with a chair between", x.held(), 0);
            x.chair(1);
            check.due("without it", x.held(), 3);
            check.row("without it", x, 7, 4);
            check.due("it struck", x.felt(1), 2);
            x.chair(2);
            check.due("with a chair at the end", x.held(), 2);
            check.row("with a chair at the end", x, 3, 2);
        });
    }

    private void calls() {
        edge("What it is", "An object is used for at most 512 calls after it has been made; what later calls answer is free.", check -> {
            UnderTheSofa x = new UnderTheSofa();
            for (int call = 1; call < 512; call++) {
                check.due("call " + call, call % 2 == 1 ? x.days(1) : x.turn(1), call % 2 == 1 ? Math.min(99, (call + 1) / 2) : call / 2 % 4);
            }
            check.due("call 512", x.count(6), 256);
        });
    }
}
