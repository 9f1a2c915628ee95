/** Promises 1 to 8, sentence by sentence: a new object, sign, end, flat, rule, spot, machine, sheet. */
public final class FlatEdgesTest extends Edges {
    public static void main(String[] args) {
        FlatEdgesTest test = new FlatEdgesTest();
        test.newObject();
        test.sign();
        test.end();
        test.flatStands();
        test.flatCannotStand();
        test.rule();
        test.spot();
        test.machine();
        test.sheet();
        test.close(1, 8);
    }

    private void newObject() {
        edge(1, "A flat of one BARE SPOT.", check -> {
            UnderTheSofa x = new UnderTheSofa();
            check.due("rows", x.count(0), 1);
            check.due("columns", x.count(1), 1);
            check.due("spots that are no wall", x.count(2), 1);
            check.due("bare", x.spot(0, 0), 1);
            check.due("free", x.spot(0, 5), 1);
            check.due("no plug", x.count(5), NONE);
            check.throwsNone("a second spot", () -> x.spot(1, 0));
            int[] counts = {1, 1, 1, 0, 0, NONE, 0, 0, 0, 0, 0};
            for (int what = 0; what < counts.length; what++) {
                check.due("count(" + what + ")", x.count(what), counts[what]);
            }
            check.due("undo()", x.undo(), NONE);
            for (int i = 0; i <= 2; i++) {
                check.due("again(" + i + ")", x.again(i), false);
            }
            for (int heading = 0; heading < 4; heading++) {
                check.due("ahead by " + heading, x.machine(7), NONE);
                x.turn(1);
            }
            check.due("places", x.felt(1), 4);
        });
    }

    private void sign() {
        edge(2, "Four signs come behind THE TEXT,", check -> {
            UnderTheSofa x = new UnderTheSofa();
            tell(x, "./");
            x.sign('.' << 24 | '/' << 16 | '.' << 8 | '/');
            x.end(5);
            check.due("./ and ./.", x.flat(), 3);
            check.due("its rows", x.count(0), 3);
        });
        edge(2, "of v the highest byte first:", check -> {
            UnderTheSofa x = new UnderTheSofa();
            x.sign('#' << 24 | 'r' << 16 | '.' << 8 | 'q');
            check.due("#r.q", x.flat(), 3);
            int[] kinds = {0, 2, 1, 2};
            for (int spot = 0; spot < 4; spot++) {
                check.due("kind of " + spot, x.spot(spot, 0), kinds[spot]);
            }
            for (int place = 0; place < 4; place++) {
                x.sign(0x2e2e2e2e ^ (0x2e ^ 0xff) << 24 - 8 * place);
                check.due("a byte above 127 at " + place, x.flat(), -1 - place);
            }
        });
        edge(2, "how many it has.", check -> {
            UnderTheSofa x = new UnderTheSofa();
            check.due("four", x.sign(0), 4);
            check.due("eight", x.sign(-1), 8);
            x.end(3);
            check.due("three and four", x.sign(Integer.MIN_VALUE), 7);
            check.due("count(10)", x.count(10), 7);
        });
        edge(2, "Refused: there would be more than 80.", check -> {
            for (int length = 74; length <= 80; length++) {
                UnderTheSofa x = new UnderTheSofa();
                tell(x, "s0".repeat(40));
                x.end(length);
                int due = length <= 76 ? length + 4 : NONE;
                check.due("a sign behind " + length, x.sign('x' << 24), due);
                check.due("signs then", x.count(10), due == NONE ? length : due);
                x.end(60);
                check.due("the first ones are as they were", x.run(), 30);
            }
        });
    }

    private void end() {
        edge(3, "THE TEXT has its first n signs alone: true;", check -> {
            for (int n = 0; n <= 8; n++) {
                UnderTheSofa x = new UnderTheSofa();
                x.sign('s' << 24 | '0' << 16 | 't' << 8 | '1');
                x.sign('s' << 24 | '0' << 16 | 't' << 8 | '2');
                check.due("end(" + n + ") of 8", x.end(n), true);
                check.due("signs", x.count(10), n);
                check.due("the run of " + n, x.run(), n % 2 == 0 ? n / 2 : -1 - n);
            }
            UnderTheSofa full = new UnderTheSofa();
            tell(full, ".".repeat(80));
            check.due("end(80) of 80", full.end(80), true);
            UnderTheSofa empty = new UnderTheSofa();
            check.due("end(0) of none", empty.end(0), true);
        });
        edge(3, "false if it has not so many,", check -> {
            UnderTheSofa x = new UnderTheSofa();
            check.due("end(1) of none", x.end(1), false);
            x.sign(0);
            check.due("end(5) of 4", x.end(5), false);
            check.due("signs", x.count(10), 4);
            x.end(2);
            check.due("end(4) behind end(2)", x.end(4), false);
            check.due("end(most)", x.end(Integer.MAX_VALUE), false);
            check.due("signs", x.count(10), 2);
            tell(x, ".".repeat(80));
            check.due("end(81) of 80", x.end(81), false);
        });
        edge(3, "or n is below 0.", check -> {
            UnderTheSofa x = new UnderTheSofa();
            check.due("end(-1) of none", x.end(-1), false);
            x.sign(0);
            check.due("end(-1)", x.end(-1), false);
            check.due("end(least)", x.end(Integer.MIN_VALUE), false);
            check.due("signs", x.count(10), 4);
        });
    }

    private void flatStands() {
        edge(4, "THE TEXT is THE FLAT anew: how many SPOTS are no WALL;", check -> {
            UnderTheSofa x = in(GREATEST);
            check.due("#", flat(x, "#./r#"), 2);
            check.due("rows", x.count(0), 2);
            check.due("columns", x.count(1), 2);
            check.due("a wall", x.spot(0, 0), 0);
            check.due("a rug", x.spot(2, 0), 2);
            check.due("a wall again", x.spot(3, 0), 0);
            check.throwsNone("the old flat's fifth spot", () -> x.spot(4, 0));
            check.due("one", flat(x, "p"), 1);
            check.due("36", flat(x, GREATEST), 36);
            check.due("35", flat(x, "#" + GREATEST.substring(1)), 35);
        });
        edge(4, "THE TEXT is THE FLAT anew:", check -> {
            UnderTheSofa x = new UnderTheSofa();
            for (String text : new String[] {"qr", "..", "..", "r.x", "..", "p.x", "..", "p.", "q.", "..", "..", "r#/#r", "..", ".."}) {
                int answer = flat(x, text);
                boolean bare = text.equals("..");
                check.due(text + " stands", answer > 0, !text.endsWith("x"));
                check.due("the plug of " + text, bare ? x.count(5) : NONE, NONE);
                check.due("the dust of a day in " + text, bare ? x.days(1) : 2, 2);
                check.due("where it begins in " + text, bare ? x.machine(0) : 0, 0);
            }
            for (String text : new String[] {"./././././.", GREATEST, ".../...", "../../..", "......", "...../.....", "./.", "..../..../....", "..."}) {
                flat(x, text);
                aheadIsRight(check, x);
            }
        });
        edge(4, "no CHAIRS, no DUST;", check -> {
            UnderTheSofa x = in("p..");
            x.chair(1);
            x.chair(2);
            x.days(3);
            flat(x, "p..");
            check.due("chairs", x.count(3), 0);
            check.due("free", x.spot(1, 5), 1);
            check.due("dust", x.count(4), 0);
            check.due("dust of a spot", x.spot(2, 2), 0);
        });
        edge(4, "THE MACHINE is at the PLUG", check -> {
            check.due("p at the end", in("...p").machine(0), 3);
            check.due("q in the second row", in("../.q").machine(0), 3);
            check.due("p at the end of all", in(GREATEST.substring(0, 40) + "p").machine(0), 35);
        });
        edge(4, "(without one: at the first SPOT that is no WALL)", check -> {
            check.due("the first", in("..").machine(0), 0);
            check.due("behind walls", in("##/#r").machine(0), 3);
            check.due("the last of all", in("######/######/######/######/######/#####.").machine(0), 35);
        });
        edge(4, "with HEADING 0, CURRENT 100, BOX, STEPS, BUMPS, DAY 0;", check -> {
            UnderTheSofa x = in("p..");
            x.days(2);
            x.turn(1);
            x.steps(4);
            check.due("heading ahead of it", x.machine(1), 3);
            check.due("box ahead of it", x.machine(3), 4);
            flat(x, "p..");
            check.due("heading", x.machine(1), 0);
            check.due("current", x.machine(2), 100);
            check.due("box", x.machine(3), 0);
            check.due("steps", x.machine(4), 0);
            check.due("bumps", x.machine(5), 0);
            check.due("day", x.count(6), 0);
        });
        edge(4, "nothing was felt, nothing can be undone, nothing is kept.", check -> {
            UnderTheSofa x = in("p..");
            x.felt(1);
            x.turn(1);
            for (int i = 0; i < 3; i++) {
                x.keep(i);
            }
            flat(x, "p..");
            check.due("felt", x.count(7), 0);
            check.due("places", x.held(), 3);
            check.due("what can be undone", x.count(8), 0);
            check.due("undo()", x.undo(), NONE);
            for (int i = 0; i < 3; i++) {
                check.due("again(" + i + ")", x.again(i), false);
            }
        });
    }

    /** Nothing of an older flat's edges is left. */
    private static void aheadIsRight(Check check, UnderTheSofa x) {
        int rows = x.count(0);
        int columns = x.count(1);
        for (int spot = 0; spot < rows * columns; spot++) {
            int r = spot / columns;
            int c = spot % columns;
            int[] due = {r > 0 ? spot - columns : NONE, c < columns - 1 ? spot + 1 : NONE, r < rows - 1 ? spot + columns : NONE, c > 0 ? spot - 1 : NONE};
            long neighbours = 0;
            for (int heading = 0; heading < 4; heading++) {
                x.carry(spot, heading);
                check.due("ahead of " + spot + " by " + heading + " in " + rows + " by " + columns, x.machine(7), due[heading]);
                neighbours |= due[heading] == NONE ? 0 : 1L << due[heading];
            }
            for (int to = 0; to < rows * columns; to++) {
                check.due("a way of one step from " + spot + " to " + to, x.way(spot, to) == 1, (neighbours >> to & 1) == 1);
            }
        }
    }

    private void cannotStand(Check check, String text, int due) {
        UnderTheSofa x = in("p.r");
        check.due("flat of " + text, flat(x, text), due);
        check.due("the text is empty then", x.count(10), 0);
        check.due("the old flat stays", x.count(1) * 10 + x.count(5), 30);
    }

    private void flatCannotStand() {
        edge(4, "-1 - p: the sign at p can't stand there", check -> {
            for (int p = 0; p < 5; p++) {
                for (char wrong : new char[] {'x', 0, 255, ' ', 'P', 'R', '*', '0'}) {
                    cannotStand(check, "..../".substring(0, p) + wrong + "...", -1 - p);
                }
            }
            cannotStand(check, "/", -1);
            cannotStand(check, "xx", -1);
        });
        edge(4, "(its end, if it ends too early:", check -> {
            cannotStand(check, "", -1);
            cannotStand(check, "./", -3);
            cannotStand(check, "....../", -8);
        });
        edge(4, "a ROW of none,", check -> {
            cannotStand(check, "/..", -1);
            cannotStand(check, "..//..", -4);
            cannotStand(check, "../../", -7);
            cannotStand(check, "##/", -4);
        });
        edge(4, "or of fewer than the first one;", check -> {
            cannotStand(check, "../.", -5);
            cannotStand(check, ".././..", -5);
            cannotStand(check, "....../....../....../....../....../.....", -41);
            cannotStand(check, "....../...../......", -13);
        });
        edge(4, "a seventh SPOT,", check -> {
            cannotStand(check, ".......", -7);
            cannotStand(check, "......./.......", -7);
            cannotStand(check, "......#", -7);
            cannotStand(check, "....../.......", -14);
        });
        edge(4, "one more than the first ROW has,", check -> {
            cannotStand(check, "./..", -4);
            cannotStand(check, "../../...", -9);
            cannotStand(check, "...../......", -12);
        });
        edge(4, "a second PLUG,", check -> {
            cannotStand(check, "pp", -2);
            cannotStand(check, "qq", -2);
            cannotStand(check, "p.q", -3);
            cannotStand(check, "q./.p", -5);
            cannotStand(check, "#p/p.", -4);
        });
        edge(4, "a / behind the sixth ROW: at it);", check -> {
            cannotStand(check, "./././././././.", -12);
            cannotStand(check, "./././././.".concat("/"), -12);
            cannotStand(check, GREATEST + "/......", -42);
            check.due("six rows", flat(new UnderTheSofa(), "./././././."), 6);
        });
        edge(4, "-100: all SPOTS are WALL (the text could stand).", check -> {
            cannotStand(check, "#", -100);
            cannotStand(check, "######/######/######/######/######/######", -100);
            cannotStand(check, "##/##", -100);
            cannotStand(check, "##/#", -5);
            cannotStand(check, "##/#x", -5);
            cannotStand(check, "##/###", -6);
        });
    }

    private void rule() {
        edge(5, "THE TEXT is THE RULE", check -> {
            UnderTheSofa x = new UnderTheSofa();
            check.due("rule 3", rule(x, "3"), 0);
            check.due("turn", x.machine(6), 3);
            check.due("the text is empty then", x.count(10), 0);
            check.due("rule 2", rule(x, "2"), 0);
            check.due("turn", x.machine(6), 2);
            x.steps(1);
            check.due("it turns by it", x.machine(1), 2);
            flat(x, "..");
            check.due("a new flat leaves it", x.machine(6), 2);
            String[] rules = {"-1", "--1", "2", "1+2", "1", "2*3+5", "-3", "1+x", "3", "0", "1-2-3", "2"};
            int[] due = {3, 1, 2, 3, 1, 3, 1, 1, 3, 0, 0, 2};
            for (int i = 0; i < rules.length; i++) {
                rule(x, rules[i]);
                check.due("nothing of an older rule is left: " + rules[i], x.machine(6), due[i]);
            }
        });
        edge(5, "(an empty one: none): 0.", check -> {
            UnderTheSofa x = new UnderTheSofa();
            check.due("none", x.rule(), 0);
            check.due("turn", x.machine(6), 1);
            rule(x, "3");
            check.due("an empty one", rule(x, ""), 0);
            check.due("turn", x.machine(6), 1);
            x.steps(1);
            check.due("it turns by 1", x.machine(1), 1);
        });
        edge(5, "-1 - p: the sign at p can't stand there", check -> {
            String[] rules = {"x", "+1", "*b", ")", "<1", "1x", "1+*2", "b b", "bh", "2b", "b2", "(1)2", "(1)b", "1(2)", "1)", "(1))", "B", "1.5", "--*1", "()",
                "1-+2", "1//2", "(<1)", "1&2", "\u00e9"};
            int[] due = {-1, -1, -1, -1, -1, -2, -3, -2, -2, -2, -2, -4, -4, -2, -2, -4, -1, -2, -3, -2,
                -3, -3, -2, -2, -1};
            for (int i = 0; i < rules.length; i++) {
                UnderTheSofa x = new UnderTheSofa();
                rule(x, "2");
                check.due("rule " + rules[i], rule(x, rules[i]), due[i]);
                check.due("the text is empty then", x.count(10), 0);
                check.due("the old rule stays", x.machine(6), 2);
            }
        });
        edge(5, "(its end, if it ends too early;", check -> {
            String[] rules = {"-", "1+", "1-", "1*", "1/", "1<", "1>", "1=", "(", "(1", "((1)", "(1+", "1+(2", "b*-"};
            for (String rule : rules) {
                check.due("rule " + rule, rule(new UnderTheSofa(), rule), -1 - rule.length());
            }
            check.due("39 signs", rule(new UnderTheSofa(), "-".repeat(39)), -40);
            check.due("40 signs", rule(new UnderTheSofa(), "-".repeat(40)), -41);
        });
        edge(5, "40, if it has more and the first 40 could go on or end).", check -> {
            String signs = "-".repeat(80);
            check.due("they could end", rule(new UnderTheSofa(), signs.substring(0, 39) + "1+1"), -41);
            check.due("they could end, a wrong one behind", rule(new UnderTheSofa(), signs.substring(0, 39) + "bx"), -41);
            check.due("they could go on", rule(new UnderTheSofa(), signs.substring(0, 40) + "1"), -41);
            check.due("they could go on behind a bracket", rule(new UnderTheSofa(), signs.substring(0, 39) + "(1)"), -41);
            check.due("80 signs", rule(new UnderTheSofa(), signs), -41);
            check.due("a wrong one at 39", rule(new UnderTheSofa(), signs.substring(0, 39) + "*1"), -40);
            check.due("a wrong one at 3", rule(new UnderTheSofa(), "1+1x" + signs.substring(0, 70)), -4);
            check.due("40 signs stand", rule(new UnderTheSofa(), signs.substring(0, 39) + "1"), 0);
        });
    }

    private void spot() {
        String told = "#.r/p..";
        edge(6, "Of a SPOT, what 0: 0 a WALL, 1 BARE, 2 a RUG,", check -> {
            UnderTheSofa x = in("#.r/q..");
            int[] kinds = {0, 1, 2, 2, 1, 1};
            for (int spot = 0; spot < 6; spot++) {
                check.due("kind of " + spot, x.spot(spot, 0), kinds[spot]);
            }
            check.due("p is bare", in("p").spot(0, 0), 1);
        });
        edge(6, "1: 1 with a CHAIR,", check -> {
            UnderTheSofa x = in(told);
            x.chair(5);
            for (int spot = 0; spot < 6; spot++) {
                check.due("chair at " + spot, x.spot(spot, 1), spot == 5 ? 1 : 0);
            }
            x.chair(5);
            check.due("taken up", x.spot(5, 1), 0);
        });
        edge(6, "2: DUST,", check -> {
            UnderTheSofa x = in(told);
            x.days(1);
            int[] dust = {0, 1, 2, 1, 1, 1};
            for (int spot = 0; spot < 6; spot++) {
                check.due("dust of " + spot, x.spot(spot, 2), dust[spot]);
            }
        });
        edge(6, "3: 1 if it is the PLUG,", check -> {
            UnderTheSofa x = in(told);
            UnderTheSofa without = in("#.r/...");
            for (int spot = 0; spot < 6; spot++) {
                check.due("plug at " + spot, x.spot(spot, 3), spot == 3 ? 1 : 0);
                check.due("no plug at " + spot, without.spot(spot, 3), 0);
            }
        });
        edge(6, "4: 1 if THE MACHINE is there,", check -> {
            UnderTheSofa x = in(told, 4, 1);
            for (int spot = 0; spot < 6; spot++) {
                check.due("the machine at " + spot, x.spot(spot, 4), spot == 4 ? 1 : 0);
            }
        });
        edge(6, "5: 1 if FREE.", check -> {
            UnderTheSofa x = in(told);
            x.chair(2);
            for (int spot = 0; spot < 6; spot++) {
                check.due("free at " + spot, x.spot(spot, 5), spot == 0 || spot == 2 ? 0 : 1);
            }
        });
        edge(6, "NoSuchElementException: none such,", check -> {
            UnderTheSofa x = in(told);
            for (int spot : new int[] {-1, 6, 7, 35, 36, 64, Integer.MAX_VALUE, Integer.MIN_VALUE}) {
                for (int what = 0; what <= 5; what++) {
                    int w = what;
                    check.throwsNone("spot(" + spot + ", " + what + ")", () -> x.spot(spot, w));
                }
            }
            check.due("the last one", in(GREATEST).spot(35, 0), 1);
            check.throwsNone("one behind the last one", () -> in(GREATEST).spot(36, 0));
        });
        edge(6, "another what.", check -> {
            UnderTheSofa x = in(told);
            for (int what : new int[] {-1, 6, 7, Integer.MAX_VALUE, Integer.MIN_VALUE}) {
                check.throwsNone("spot(0, " + what + ")", () -> x.spot(0, what));
                check.throwsNone("spot(9, " + what + ")", () -> x.spot(9, what));
            }
        });
    }

    private void machine() {
        edge(7, "Of THE MACHINE, what 0: SPOT, 1: HEADING, 2: CURRENT, 3: BOX, 4: STEPS, 5: BUMPS,", check -> {
            UnderTheSofa x = in("p.r/...");
            x.sheet(2, 6, 10, 1);
            x.steps(4);
            int[] due = {2, 2, 95, 11 + 12, 4, 2};
            for (int what = 0; what <= 5; what++) {
                check.due("machine(" + what + ")", x.machine(what), due[what]);
            }
        });
        edge(7, "6: TURN, if it struck now,", check -> {
            UnderTheSofa x = in("..r");
            check.due("without a rule", x.machine(6), 1);
            rule(x, "s+1");
            for (int spot = 0; spot < 3; spot++) {
                x.carry(spot, 0);
                check.due("s+1 at " + spot, x.machine(6), spot + 1);
            }
            rule(x, "b+2");
            check.due("b+2", x.machine(6), 2);
            x.steps(1);
            check.due("b+2 behind a bump", x.machine(6), 3);
            check.due("it did not strike by the question", x.machine(5), 1);
        });
        edge(7, "7: the SPOT ahead (NONE outside).", check -> {
            UnderTheSofa x = in("../.#");
            int[][] due = {{NONE, 1, 2, NONE}, {NONE, NONE, 3, 0}, {0, 3, NONE, NONE}};
            for (int spot = 0; spot < 3; spot++) {
                for (int heading = 0; heading < 4; heading++) {
                    x.carry(spot, heading);
                    check.due("ahead of " + spot + " by " + heading, x.machine(7), due[spot][heading]);
                }
            }
        });
        edge(7, "NoSuchElementException: another what.", check -> {
            UnderTheSofa x = in("..");
            for (int what : new int[] {-1, 8, 9, Integer.MAX_VALUE, Integer.MIN_VALUE}) {
                check.throwsNone("machine(" + what + ")", () -> x.machine(what));
            }
        });
    }

    private void dustIs(Check check, String call, UnderTheSofa x, int... due) {
        for (int spot = 0; spot < due.length; spot++) {
            check.due(call + ", dust of " + spot, x.spot(spot, 2), due[spot]);
        }
    }

    private void sheet() {
        edge(8, "DUST of SPOTS 0, 1, .. (of those that are no WALL), as a sheet tells it:", check -> {
            UnderTheSofa x = in(".#r/...");
            x.sheet(2, 6, 1, 1);
            dustIs(check, "a wall's entry is left out", x, 1, 0, 3, 4, 5, 6);
            x.chair(5);
            x.sheet(2, 6, 7, 0);
            dustIs(check, "under a chair, and anew", x, 7, 0, 7, 7, 7, 7);
            check.due("more entries than spots", x.sheet(2, 36, 1, 1), 1 + 3 + 4 + 5 + 6);
        });
        edge(8, "bytes (kind 0), shorts (1), ints (2) of n entries f, f + step, ..", check -> {
            for (int kind = 0; kind <= 2; kind++) {
                UnderTheSofa x = in("......");
                check.due("rising", x.sheet(kind, 6, 3, 4), 3 + 7 + 11 + 15 + 19 + 23);
                dustIs(check, "rising", x, 3, 7, 11, 15, 19, 23);
                check.due("falling", x.sheet(kind, 6, 25, -5), 25 + 20 + 15 + 10 + 5);
                dustIs(check, "falling", x, 25, 20, 15, 10, 5, 0);
                check.due("36 entries", in(GREATEST).sheet(kind, 36, 2, 0), 72);
            }
        });
        edge(8, "(of bytes, shorts the lowest bits, with their sign;", check -> {
            UnderTheSofa x = in("....");
            x.sheet(0, 4, 127, 1);
            dustIs(check, "bytes round 128", x, 99, 0, 0, 0);
            x.sheet(0, 4, 254, 1);
            dustIs(check, "bytes round 256", x, 0, 0, 0, 1);
            x.sheet(0, 4, -256, 1);
            dustIs(check, "bytes behind -256", x, 0, 1, 2, 3);
            x.sheet(1, 4, 32766, 1);
            dustIs(check, "shorts round 32768", x, 99, 99, 0, 0);
            x.sheet(1, 4, 65535, 1);
            dustIs(check, "shorts round 65536", x, 0, 0, 1, 2);
            x.sheet(1, 4, 253, 1);
            dustIs(check, "shorts are no bytes", x, 99, 99, 99, 99);
            x.sheet(2, 4, Integer.MAX_VALUE - 1, 1);
            dustIs(check, "ints round the greatest", x, 99, 99, 0, 0);
            x.sheet(2, 4, -1, 0x40000000);
            dustIs(check, "ints by a great step", x, 0, 99, 99, 0);
            x.sheet(2, 4, 65536, 0);
            dustIs(check, "ints are no shorts", x, 99, 99, 99, 99);
        });
        edge(8, "put to 0 .. 99),", check -> {
            for (int kind = 0; kind <= 2; kind++) {
                UnderTheSofa x = in("....");
                x.sheet(kind, 4, 98, 1);
                dustIs(check, "above", x, 98, 99, 99, 99);
                x.sheet(kind, 4, -2, 1);
                dustIs(check, "below", x, 0, 0, 0, 1);
            }
        });
        edge(8, "or a missing one (3):", check -> {
            UnderTheSofa x = in("....");
            x.sheet(2, 4, 5, 0);
            check.due("missing", x.sheet(3, 4, 5, 0), -3);
            dustIs(check, "missing", x, 0, 0, 0, 0);
        });
        edge(8, "SPOTS behind it have 0:", check -> {
            UnderTheSofa x = in("....");
            x.sheet(2, 4, 9, 0);
            check.due("two of four", x.sheet(2, 2, 5, 1), 11);
            dustIs(check, "two of four", x, 5, 6, 0, 0);
            check.due("none of four", x.sheet(2, 0, 5, 1), 0);
            dustIs(check, "none of four", x, 0, 0, 0, 0);
        });
        edge(8, "the sum of all.", check -> {
            check.due("99 each", in(GREATEST).sheet(2, 36, 99, 0), 36 * 99);
            check.due("walls have none", in(".#").sheet(2, 2, 99, 0), 99);
        });
        edge(8, "-2: n below 0 (of kinds 0 .. 2; nothing changes);", check -> {
            UnderTheSofa x = in("...");
            x.sheet(2, 3, 5, 0);
            for (int kind = 0; kind <= 2; kind++) {
                check.due("kind " + kind, x.sheet(kind, -1, 1, 1), -2);
                check.due("kind " + kind, x.sheet(kind, Integer.MIN_VALUE, 1, 1), -2);
                check.due("dust", x.count(4), 15);
            }
        });
        edge(8, "-3: missing (all 0).", check -> {
            for (int n : new int[] {Integer.MIN_VALUE, -1, 0, 3, 36}) {
                UnderTheSofa x = in("...");
                x.sheet(2, 3, 5, 0);
                check.due("missing, n " + n, x.sheet(3, n, 7, 7), -3);
                check.due("dust", x.count(4), 0);
            }
        });
        edge(8, "NONE: another kind, n above 36 (these first).", check -> {
            UnderTheSofa x = in("...");
            x.sheet(2, 3, 5, 0);
            for (int kind : new int[] {-1, 4, Integer.MIN_VALUE, Integer.MAX_VALUE}) {
                for (int n : new int[] {-1, 0, 3, 37}) {
                    check.due("kind " + kind + ", n " + n, x.sheet(kind, n, 1, 1), NONE);
                }
            }
            for (int kind = 0; kind <= 3; kind++) {
                check.due("37 of kind " + kind, x.sheet(kind, 37, 1, 1), NONE);
                check.due("most of kind " + kind, x.sheet(kind, Integer.MAX_VALUE, 1, 1), NONE);
            }
            check.due("dust", x.count(4), 15);
        });
    }
}
