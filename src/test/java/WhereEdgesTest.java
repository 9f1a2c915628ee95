/** Promises 30 to 34, sentence by sentence: felt, swung, forget, held, feel. */
public final class WhereEdgesTest extends Edges {
    public static void main(String[] args) {
        WhereEdgesTest test = new WhereEdgesTest();
        test.felt();
        test.swung();
        test.forget();
        test.held();
        test.feel();
        test.close(30, 34);
    }

    private static void heldIs(Check check, String call, UnderTheSofa x, long spots, int places) {
        check.due(call + ", spots", x.held(), Long.bitCount(spots));
        check.row(call, x, spots, places);
    }

    /** Twelve things, of which none tells anything. */
    private static UnderTheSofa full() {
        UnderTheSofa x = in("..");
        for (int i = 0; i < 12; i++) {
            x.swung(1);
        }
        return x;
    }

    private void felt() {
        edge(30, "It was told to go on by one SPOT, and struck (is 1), or went (0):", check -> {
            UnderTheSofa x = in("...");
            check.due("struck", x.felt(1), 8);
            heldIs(check, "struck", x, 7, 8);
            UnderTheSofa y = in("...");
            check.due("went", y.felt(0), 4);
            heldIs(check, "went", y, 7, 4);
            UnderTheSofa z = in("..");
            z.chair(1);
            check.due("a chair is struck too", z.felt(1), 4);
            check.due("and not gone to", z.felt(0), 0);
            check.due("the machine itself does nothing", z.machine(4), 0);
        });
        edge(30, "places are those that fit, all told one behind the other:", check -> {
            UnderTheSofa x = in(".../###");
            x.felt(0);
            x.felt(0);
            heldIs(check, "went, went", x, 5, 2);
            x.felt(1);
            heldIs(check, "went, went, struck", x, 5, 2);
            UnderTheSofa y = in("....../#.####");
            y.felt(0);
            y.swung(1);
            y.felt(0);
            heldIs(check, "to the right, then down; up, then to the right", y, 128 + 4, 2);
        });
        edge(30, "how many are left (where it is thought to be then;", check -> {
            UnderTheSofa x = in("..");
            check.due("one spot on", x.felt(0), 2);
            heldIs(check, "by 1 at 1, by 3 at 0", x, 3, 2);
            check.due("then struck", x.felt(1), 2);
            check.due("then went", x.felt(0), 0);
            heldIs(check, "nowhere", x, 0, 0);
            check.due("then struck", x.felt(1), 0);
        });
        edge(30, "one that struck stays with its HEADING).", check -> {
            UnderTheSofa x = in(".r");
            rule(x, "2");
            check.due("struck", x.felt(1), 6);
            check.due("struck again, as it has not turned", x.felt(1), 6);
            check.due("so that it can't go", x.felt(0), 0);
        });
        edge(30, "Refused: another is,", check -> {
            UnderTheSofa x = in("..");
            for (int is : new int[] {-1, 2, Integer.MIN_VALUE, Integer.MAX_VALUE}) {
                check.due("felt(" + is + ")", x.felt(is), NONE);
                check.due("things", x.count(7), 0);
            }
        });
        edge(30, "a thirteenth thing that was felt.", check -> {
            UnderTheSofa x = in(".");
            for (int i = 1; i <= 12; i++) {
                check.due("thing " + i, x.felt(1), 4);
                check.due("things", x.count(7), i);
            }
            check.due("the thirteenth", x.felt(1), NONE);
            check.due("the thirteenth", x.felt(0), NONE);
            check.due("things", x.count(7), 12);
            heldIs(check, "nothing changed", x, 1, 4);
            check.due("swung ones count too", full().felt(0), NONE);
            x.forget();
            check.due("forgotten ones do not", x.felt(1), 4);
        });
    }

    private void swung() {
        edge(31, "It was told to turn by n quarters (1 .. 3) to the right:", check -> {
            int[] places = {0, 4, 8, 4};
            for (int n = 1; n <= 3; n++) {
                UnderTheSofa x = in("../..");
                x.felt(0);
                x.swung(n);
                x.felt(0);
                heldIs(check, "went, swung " + n + ", went", x, 15, places[n]);
                check.due("things", x.count(7), 3);
            }
            UnderTheSofa y = in(".#/..");
            y.felt(0);
            y.swung(1);
            y.felt(0);
            heldIs(check, "to the left, then up", y, 1, 1);
            y.forget();
            y.felt(0);
            y.swung(3);
            y.felt(0);
            heldIs(check, "down, then to the right", y, 8, 1);
        });
        edge(31, "how many places are left.", check -> {
            UnderTheSofa x = in("...");
            check.due("all", x.swung(1), 12);
            x.felt(0);
            check.due("four", x.swung(3), 4);
            x.felt(0);
            x.felt(0);
            check.due("none", x.swung(2), 0);
        });
        edge(31, "Refused: another n,", check -> {
            UnderTheSofa x = in("..");
            for (int n : new int[] {0, -1, 4, Integer.MIN_VALUE, Integer.MAX_VALUE}) {
                check.due("swung(" + n + ")", x.swung(n), NONE);
                check.due("things", x.count(7), 0);
            }
        });
        edge(31, "a thirteenth.", check -> {
            UnderTheSofa x = full();
            check.due("things", x.count(7), 12);
            check.due("the thirteenth", x.swung(1), NONE);
            check.due("things", x.count(7), 12);
            UnderTheSofa y = in(".");
            for (int i = 0; i < 12; i++) {
                y.felt(1);
            }
            check.due("felt ones count too", y.swung(1), NONE);
        });
    }

    private void forget() {
        edge(32, "All that was felt is forgotten:", check -> {
            UnderTheSofa x = in("...");
            x.felt(0);
            x.swung(1);
            x.forget();
            check.due("things", x.count(7), 0);
            heldIs(check, "all places again", x, 7, 12);
            check.due("then anew", x.felt(1), 8);
        });
        edge(32, "how many things there were.", check -> {
            UnderTheSofa x = in("..");
            check.due("none", x.forget(), 0);
            x.felt(0);
            x.swung(2);
            x.felt(2);
            check.due("two", x.forget(), 2);
            check.due("none again", x.forget(), 0);
            check.due("twelve", full().forget(), 12);
        });
    }

    private void held() {
        edge(33, "SPOTS where it is thought to be, by what was felt: how many;", check -> {
            UnderTheSofa x = in(".#./r.p");
            check.due("all", x.held(), 5);
            x.felt(0);
            x.felt(0);
            check.due("behind two", x.held(), 2);
            x.felt(0);
            check.due("behind three", x.held(), 0);
            UnderTheSofa y = in(GREATEST);
            check.due("36", y.held(), 36);
        });
        edge(33, "the ROW: they (bits), how many places.", check -> {
            UnderTheSofa x = in(".#./r.p");
            x.held();
            check.row("all", x, 61, 20);
            x.felt(0);
            x.felt(0);
            x.held();
            check.row("behind two", x, 8 + 32, 2);
            x.felt(0);
            x.held();
            check.row("nowhere", x, 0, 0);
        });
    }

    private void feel() {
        edge(34, "By how many quarters (0 .. 3) it should turn ahead of going on by one SPOT,", check -> {
            for (int swung = 1; swung <= 3; swung++) {
                UnderTheSofa x = in("...");
                x.felt(0);
                x.swung(swung);
                check.due("behind swung(" + swung + ")", x.feel(), 4 - swung);
                check.row("behind swung(" + swung + ")", x, 2);
            }
            UnderTheSofa y = in("...");
            y.felt(0);
            check.due("as it is", y.feel(), 0);
            check.due("nothing was told by it", y.count(7), 1);
        });
        edge(34, "so that, whether it strikes or not, the fewest places are left at most;", check -> {
            String[] flats = {"...", "#./..", "....../.#####", ".#../....", GREATEST};
            for (String flat : flats) {
                for (int is = 0; is <= 1; is++) {
                    UnderTheSofa x = in(flat);
                    x.felt(is);
                    int least = atMost(flat, is, x.feel());
                    check.row("feel() in " + flat + " behind felt(" + is + ")", x, least);
                    for (int quarters = 0; quarters < 4; quarters++) {
                        check.due(quarters + " is no better", atMost(flat, is, quarters) >= least, true);
                    }
                }
            }
        });
        edge(34, "of equal ones the least: it;", check -> {
            check.due("four equal ones", new UnderTheSofa().feel(), 0);
            UnderTheSofa x = in("...");
            x.felt(1);
            check.due("1 and 3 are equal", x.feel(), 1);
            check.row("1 and 3 are equal", x, 4);
            UnderTheSofa y = in("..");
            y.felt(1);
            check.due("1, 2 and 3 are equal", y.feel(), 1);
            y.swung(3);
            y.felt(1);
            check.due("2 and 3 are equal", y.feel(), 2);
            check.row("2 and 3 are equal", y, 2);
        });
        edge(34, "the ROW: how many at most.", check -> {
            UnderTheSofa x = new UnderTheSofa();
            x.feel();
            check.row("alone it strikes", x, 4);
            UnderTheSofa y = in("...");
            y.feel();
            check.row("eight strike, four go", y, 8);
            UnderTheSofa z = in(GREATEST);
            z.feel();
            check.row("24 strike, 120 go", z, 120);
        });
        edge(34, "-2: no places are left.", check -> {
            UnderTheSofa x = new UnderTheSofa();
            x.felt(0);
            check.due("none", x.feel(), -2);
            x.forget();
            check.due("all", x.feel(), 0);
            UnderTheSofa y = in("..");
            y.felt(0);
            y.chair(1);
            check.due("none by a chair", y.feel(), -2);
        });
    }

    /** How many are left at most, behind one thing, if it turns so far and goes on. */
    private static int atMost(String flat, int was, int quarters) {
        int most = 0;
        for (int is = 0; is <= 1; is++) {
            UnderTheSofa x = in(flat);
            x.felt(was);
            if (quarters > 0) {
                x.swung(quarters);
            }
            most = Math.max(most, x.felt(is));
        }
        return most;
    }
}
