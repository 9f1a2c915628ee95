/** Promises 30 to 34: felt, swung, forget, held, feel. */
public final class WhereTest {
    private static final Check check = new Check();

    public static void main(String[] args) {
        atFirst();
        feltAndHeld();
        toTheRight();
        byWhatIsFreeNow();
        twelveThings();
        feel();
        check.close("WhereTest");
    }

    private static void atFirst() {
        UnderTheSofa x = Check.in(".#r/..p");
        check.due("held()", x.held(), 5);
        check.row("held()", x, 63 - 2, 20);
        x.chair(0);
        check.due("not under a chair", x.held(), 4);
        check.row("not under a chair", x, 63 - 3, 16);
        check.due("forget()", x.forget(), 0);
        check.due("felt things", x.count(7), 0);
    }

    private static void feltAndHeld() {
        UnderTheSofa x = Check.in("...");
        check.due("struck", x.felt(1), 8);
        check.due("held()", x.held(), 3);
        check.row("held()", x, 7, 8);
        check.due("forget()", x.forget(), 1);
        check.due("went", x.felt(0), 4);
        check.due("held()", x.held(), 3);
        check.row("where it is thought to be then", x, 7, 4);
        check.due("went", x.felt(0), 2);
        check.due("held()", x.held(), 2);
        check.row("held()", x, 5, 2);
        check.due("it strikes, and stays with its heading", x.felt(1), 2);
        check.due("so that it strikes again", x.felt(1), 2);
        check.due("went", x.felt(0), 0);
        check.due("nowhere", x.held(), 0);
        check.row("nowhere", x, 0, 0);
        check.due("things", x.count(7), 5);
        check.due("forget()", x.forget(), 5);
        check.due("held()", x.held(), 3);
        check.row("held()", x, 7, 12);
        x.felt(0);
        check.row("felt() tells no row", x, 7, 12);
        check.due("felt(2)", x.felt(2), -1);
        check.due("felt(-1)", x.felt(-1), -1);
        check.due("things", x.count(7), 1);
        check.due("the machine is where it was", x.machine(0), 0);
    }

    private static void toTheRight() {
        UnderTheSofa x = Check.in(".#/..");
        check.due("went", x.felt(0), 4);
        check.due("swung(1)", x.swung(1), 4);
        check.due("went", x.felt(0), 1);
        x.held();
        check.row("a quarter to the right", x, 1, 1);
        x.forget();
        x.felt(0);
        check.due("swung(3)", x.swung(3), 4);
        check.due("went", x.felt(0), 1);
        x.held();
        check.row("three quarters", x, 8, 1);
        x.forget();
        x.felt(0);
        x.swung(2);
        check.due("back", x.felt(0), 4);
        check.due("swung(0)", x.swung(0), -1);
        check.due("swung(4)", x.swung(4), -1);
        check.due("things", x.count(7), 3);
    }

    private static void byWhatIsFreeNow() {
        UnderTheSofa x = Check.in("...");
        x.felt(0);
        x.chair(1);
        check.due("with a chair between", x.held(), 0);
        check.row("with a chair between", x, 0, 0);
        check.due("nowhere", x.feel(), -2);
        check.row("the row stays", x, 0, 0);
        x.chair(1);
        check.due("without", x.held(), 3);
        x.undo();
        check.due("with it again", x.felt(1), 0);
        Check.flat(x, "..");
        check.due("a flat forgets", x.count(7), 0);
        check.due("a flat forgets", x.held(), 2);
    }

    private static void twelveThings() {
        UnderTheSofa x = Check.in("p.");
        int[] left = {6, 6, 4, 4, 2, 2, 0, 0, 0, 0, 0, 0};
        for (int i = 0; i < left.length; i++) {
            check.due("thing " + i, i % 2 == 0 ? x.felt(1) : x.swung(1), left[i]);
        }
        check.due("a thirteenth", x.felt(1), -1);
        check.due("a thirteenth", x.swung(1), -1);
        check.due("things", x.count(7), 12);
        check.due("forget()", x.forget(), 12);
        check.due("then again", x.felt(1), 6);
    }

    private static void feel() {
        UnderTheSofa x = Check.in("...");
        check.due("feel()", x.feel(), 0);
        check.row("feel()", x, 8);
        x.felt(0);
        check.due("ahead", x.feel(), 0);
        check.row("ahead", x, 2);
        x.swung(1);
        check.due("three quarters behind one", x.feel(), 3);
        check.row("three quarters behind one", x, 2);
        x.swung(2);
        check.due("one behind three", x.feel(), 1);
        check.row("one behind three", x, 2);
        x.forget();
        x.felt(0);
        x.felt(0);
        check.due("one that tells nothing", x.feel(), 0);
        check.row("one that tells nothing", x, 2);
        check.due("feel() is no thing that was felt", x.count(7), 2);
        UnderTheSofa y = new UnderTheSofa();
        check.due("of equal ones the least", y.feel(), 0);
        check.row("of equal ones the least", y, 4);
    }
}
