import java.util.Arrays;
import java.util.NoSuchElementException;

/** What the tests share: due answers, texts told by signs, rows. */
final class Check {
    private int wrong = 0;
    private int asked = 0;

    void due(String call, long got, long want) {
        asked++;
        if (got != want) {
            wrong++;
            System.out.println(call + " answered " + got + ", due is " + want);
        }
    }

    void due(String call, boolean got, boolean want) {
        due(call, got ? 1L : 0L, want ? 1L : 0L);
    }

    void row(String call, UnderTheSofa x, long... want) {
        asked++;
        long[] got = rowOf(x);
        if (!Arrays.equals(got, want)) {
            wrong++;
            System.out.println(call + " told the row " + Arrays.toString(got) + ", due is " + Arrays.toString(want));
        }
        noSuchRow(call, x, -1);
        noSuchRow(call, x, got.length);
    }

    private void noSuchRow(String call, UnderTheSofa x, int i) {
        int thrown = 0;
        try {
            x.row(i);
        } catch (NoSuchElementException e) {
            thrown = 1;
        }
        due(call + ", then row(" + i + ") throws", thrown, 1);
    }

    static long[] rowOf(UnderTheSofa x) {
        long[] row = new long[x.count(9)];
        for (int i = 0; i < row.length; i++) {
            row[i] = x.row(i);
        }
        return row;
    }

    /** THE TEXT is emptied, then told sign by sign, four at once. */
    static void tell(UnderTheSofa x, String text) {
        x.end(0);
        for (int i = 0; i < text.length(); i += 4) {
            int v = 0;
            for (int k = 0; k < 4; k++) {
                v = v << 8 | (i + k < text.length() ? text.charAt(i + k) & 255 : 0);
            }
            x.sign(v);
        }
        x.end(text.length());
    }

    static int flat(UnderTheSofa x, String text) {
        tell(x, text);
        return x.flat();
    }

    static int rule(UnderTheSofa x, String text) {
        tell(x, text);
        return x.rule();
    }

    static int run(UnderTheSofa x, String text) {
        tell(x, text);
        return x.run();
    }

    static UnderTheSofa in(String flat) {
        UnderTheSofa x = new UnderTheSofa();
        if (flat(x, flat) < 1) {
            throw new IllegalArgumentException(flat);
        }
        return x;
    }

    /** Whether a call throws what the document names; anything else that is thrown goes on to the caller. */
    void throwsNone(String call, Runnable asked) {
        int thrown = 0;
        try {
            asked.run();
        } catch (NoSuchElementException e) {
            thrown = 1;
        }
        due(call + " throws", thrown, 1);
    }

    int asked() {
        return asked;
    }

    int wrong() {
        return wrong;
    }

    void close(String name) {
        System.out.println(name + ": " + asked + " answers, " + wrong + " wrong");
        if (wrong != 0) {
            System.exit(1);
        }
    }
}
