import java.util.Arrays;
import java.util.NoSuchElementException;
import java.util.Random;

/** Drawn runs of calls: the program answers as the model does, tells the same rows and is in the same state. */
public final class ModelTest {
    private static final int RUNS = 1500;
    private static final int CALLS = 120;
    private static final int KINDS = 45;

    private final Random random;
    private final UnderTheSofa x = new UnderTheSofa();
    private final SofaModel m = new SofaModel();
    private final StringBuilder told = new StringBuilder();
    private String call = "";
    private long got;
    private long want;

    private ModelTest(long seed) {
        random = new Random(seed);
    }

    public static void main(String[] args) {
        int wrong = 0;
        for (int run = 0; run < RUNS && wrong < 5; run++) {
            ModelTest test = new ModelTest(run);
            if (!test.goes()) {
                wrong++;
                System.out.println("run " + run + ":" + test.told);
            }
        }
        System.out.println("ModelTest: " + RUNS + " runs, " + wrong + " wrong");
        if (wrong != 0) {
            System.exit(1);
        }
    }

    private boolean goes() {
        if (random.nextInt(10) > 0) {
            textCall(0);
        }
        if (random.nextInt(3) > 0) {
            textCall(1);
        }
        for (int i = 0; i < CALLS; i++) {
            one(random.nextInt(KINDS));
            told.append("\n  ").append(call).append(" -> ").append(got);
            if (got != want) {
                told.append(", due is ").append(want);
                return false;
            }
            if (!rowsAgree() || i % 4 == 0 && !statesAgree()) {
                return false;
            }
        }
        return true;
    }

    private boolean rowsAgree() {
        long[] row = Check.rowOf(x);
        long[] due = m.row.stream().mapToLong(n -> n).toArray();
        if (!Arrays.equals(row, due)) {
            told.append("\n  the row is ").append(Arrays.toString(row)).append(", due is ").append(Arrays.toString(due));
            return false;
        }
        return true;
    }

    private boolean statesAgree() {
        for (int what = -1; what <= 11; what++) {
            if (!same("count(" + what + ")", x.count(what), m.count(what))) {
                return false;
            }
        }
        for (int what = -1; what <= 8; what++) {
            if (!same("machine(" + what + ")", machine(what), orThrown(m.machine(what)))) {
                return false;
            }
        }
        for (int spot = -1; spot <= m.spots(); spot++) {
            for (int what = -1; what <= 6; what++) {
                if (!same("spot(" + spot + ", " + what + ")", spot(spot, what), orThrown(m.spot(spot, what)))) {
                    return false;
                }
            }
        }
        return true;
    }

    private boolean same(String what, long is, long due) {
        if (is != due) {
            told.append("\n  ").append(what).append(" is ").append(is).append(", due is ").append(due);
        }
        return is == due;
    }

    private static final long THROWN = -7777;

    private static long orThrown(Integer answer) {
        return answer == null ? THROWN : answer;
    }

    private long machine(int what) {
        try {
            return x.machine(what);
        } catch (NoSuchElementException e) {
            return THROWN;
        }
    }

    private long spot(int spot, int what) {
        try {
            return x.spot(spot, what);
        } catch (NoSuchElementException e) {
            return THROWN;
        }
    }

    /** Mostly from .. to, now and then just outside or far off. */
    private int some(int from, int to) {
        int far = random.nextInt(40);
        if (far == 0) {
            return from - 1;
        }
        if (far == 1) {
            return to + 1;
        }
        if (far == 2) {
            return random.nextInt();
        }
        if (far == 3) {
            return to;
        }
        return from + random.nextInt(to - from + 1);
    }

    private int someSpot() {
        return some(0, m.spots() - 1);
    }

    private void is(String name, long is, long due) {
        call = name;
        got = is;
        want = due;
    }

    private void is(String name, boolean is, boolean due) {
        is(name, is ? 1 : 0, due ? 1 : 0);
    }

    private void one(int kind) {
        if (kind < 15) {
            act(kind);
        } else if (kind < 30) {
            ask(kind);
        } else {
            askMore(kind);
        }
    }

    private void act(int kind) {
        int n;
        int k;
        switch (kind) {
            case 0:
                n = random.nextBoolean() ? some(0, 12) : some(0, 200);
                is("steps(" + n + ")", x.steps(n), m.act('s', n, 0));
                break;
            case 1:
                n = some(0, 3);
                is("turn(" + n + ")", x.turn(n), m.act('t', n, 0));
                break;
            case 2:
                n = random.nextBoolean() ? some(1, 3) : some(1, 30);
                is("days(" + n + ")", x.days(n), m.act('d', n, 0));
                break;
            case 3:
            case 4:
                n = someSpot();
                is("chair(" + n + ")", x.chair(n), m.act('c', n, 0));
                break;
            case 5:
                n = random.nextInt(3) == 0 && m.plug() >= 0 ? m.plug() : someSpot();
                k = some(0, 3);
                is("carry(" + n + ", " + k + ")", x.carry(n, k), m.act('y', n, k));
                break;
            case 6:
                n = some(1, 999);
                is("load(" + n + ")", x.load(n), m.act('l', n, 0));
                break;
            case 7:
                is("undo()", x.undo(), m.undo());
                break;
            case 8:
                k = some(0, 3);
                n = some(0, 36);
                int f = random.nextInt(4) == 0 ? random.nextInt() : random.nextInt(60) - 10;
                int step = random.nextInt(4) == 0 ? random.nextInt() : random.nextInt(30) - 8;
                is("sheet(" + k + ", " + n + ", " + f + ", " + step + ")", x.sheet(k, n, f, step), m.sheet(k, n, f, step));
                break;
            case 9:
                n = some(0, 2);
                is("keep(" + n + ")", x.keep(n), m.keep(n));
                break;
            case 10:
                n = some(0, 2);
                if (random.nextInt(3) == 0) {
                    is("again(" + n + ")", x.again(n), m.again(n));
                }
                break;
            case 11:
                textCall(random.nextInt(6) == 0 ? 0 : 2);
                break;
            case 12:
                textCall(1);
                break;
            case 13:
                textCall(2);
                break;
            default:
                n = random.nextInt();
                is("sign(" + n + ")", x.sign(n), m.addSigns(n));
                if (random.nextBoolean()) {
                    n = some(0, 80);
                    is("end(" + n + ")", x.end(n), m.end(n));
                }
                break;
        }
    }

    private void ask(int kind) {
        int n;
        int k;
        switch (kind) {
            case 15:
                n = some(0, 200);
                is("been(" + n + ")", x.been(n), m.been(n));
                break;
            case 16:
                is("all()", x.all(), m.all());
                break;
            case 17:
                is("never()", x.never(), m.never());
                break;
            case 18:
                is("angle()", x.angle(), m.angle());
                break;
            case 19:
                is("meets()", x.meets(), m.meets());
                break;
            case 20:
                is("round()", x.round(), m.round());
                break;
            case 21:
                n = random.nextBoolean() ? some(1, 9) : some(1, 999);
                is("corner(" + n + ")", x.corner(n), m.corner(n));
                break;
            case 22:
            case 23:
                n = someSpot();
                k = someSpot();
                is("way(" + n + ", " + k + ")", x.way(n, k), m.way(n, k));
                break;
            case 24:
                is("back()", x.back(), m.back());
                break;
            case 25:
                is("plug()", x.plug(), m.bestPlug());
                break;
            case 26:
                is("doors()", x.doors(), m.doors());
                break;
            case 27:
                is("chairs()", x.chairs(), m.chairs());
                break;
            default:
                n = some(0, 6);
                is("best(" + n + ")", x.best(n), m.best(n));
                break;
        }
    }

    private void askMore(int kind) {
        int n;
        int k;
        switch (kind) {
            case 30:
            case 31:
                n = some(0, 1);
                is("felt(" + n + ")", x.felt(n), m.felt(n));
                break;
            case 32:
                n = some(1, 3);
                is("swung(" + n + ")", x.swung(n), m.swung(n));
                break;
            case 33:
                if (random.nextInt(3) == 0) {
                    is("forget()", x.forget(), m.forget());
                }
                break;
            case 34:
                is("held()", x.held(), m.held());
                break;
            case 35:
                is("feel()", x.feel(), m.feel());
                break;
            case 36:
                n = some(0, 10);
                k = someSpot();
                is("likely(" + n + ", " + k + ")", x.likely(n, k), m.likely(n, k));
                break;
            case 37:
                n = some(0, 7);
                k = some(1, 9);
                is("week(" + n + ", " + k + ")", x.week(n, k), m.week(n, k));
                break;
            case 38:
                is("looks()", x.looks(), m.looks());
                break;
            case 39:
            case 40:
                n = random.nextBoolean() ? some(0, 60) : some(0, 999);
                is("box(" + n + ")", x.box(n), m.box(n));
                break;
            case 41:
                n = some(1, m.open());
                is("clean(" + n + ")", x.clean(n), m.clean(n));
                break;
            case 42:
                n = some(1, 99);
                is("rests(" + n + ")", x.rests(n), m.rests(n));
                break;
            default:
                n = random.nextInt();
                k = some(1, 60);
                is("weeks(" + n + ", " + k + ")", x.weeks(n, k), m.weeks(n, k));
                break;
        }
    }

    private void textCall(int reader) {
        String t = reader == 0 ? someFlat() : reader == 1 ? someRule() : someRun();
        if (random.nextInt(4) == 0 && !t.isEmpty()) {
            t = spoilt(t);
        }
        t = t.length() > 80 ? t.substring(0, 80) : t;
        m.text.setLength(0);
        m.text.append(t);
        Check.tell(x, t);
        if (reader == 0) {
            is("flat() of " + t, x.flat(), m.flat());
        } else if (reader == 1) {
            is("rule() of " + t, x.rule(), m.rule());
        } else {
            is("run() of " + t, x.run(), m.run());
        }
    }

    private String spoilt(String t) {
        String signs = "#.rpq/<>=+-*/()0123456789bhsrdtcl~ \u00ff";
        StringBuilder b = new StringBuilder(t);
        int at = random.nextInt(t.length());
        switch (random.nextInt(4)) {
            case 0:
                b.setCharAt(at, signs.charAt(random.nextInt(signs.length())));
                break;
            case 1:
                b.insert(at, signs.charAt(random.nextInt(signs.length())));
                break;
            case 2:
                b.deleteCharAt(at);
                break;
            default:
                b.setLength(at);
                break;
        }
        return b.toString();
    }

    private String someFlat() {
        int rows = 1 + random.nextInt(6);
        int columns = 1 + random.nextInt(6);
        boolean even = random.nextInt(5) == 0;
        StringBuilder b = new StringBuilder();
        for (int i = 0; i < rows * columns; i++) {
            b.append(i > 0 && i % columns == 0 ? "/" : "").append(even ? "." : "....rr#".charAt(random.nextInt(7)) + "");
        }
        int at = random.nextInt(b.length());
        if (random.nextInt(4) > 0 && b.charAt(at) != '/') {
            b.setCharAt(at, random.nextInt(3) == 0 ? 'q' : 'p');
        }
        return b.toString();
    }

    private String someRule() {
        String t = expression(random.nextInt(4));
        return t.length() > 46 ? "b+d*h<-3" : t;
    }

    private String expression(int depth) {
        StringBuilder b = new StringBuilder(sum(depth));
        if (random.nextInt(3) == 0) {
            b.append("<>=".charAt(random.nextInt(3))).append(sum(depth));
        }
        return b.toString();
    }

    private String sum(int depth) {
        StringBuilder b = new StringBuilder(thing(depth));
        for (int i = random.nextInt(3); i > 0; i--) {
            b.append("+-*/".charAt(random.nextInt(4))).append(thing(depth));
        }
        return b.toString();
    }

    private String thing(int depth) {
        int kind = random.nextInt(7);
        if (kind == 0) {
            return "-" + thing(depth);
        }
        if (kind < 3 && depth > 0) {
            return "(" + expression(depth - 1) + ")";
        }
        if (kind < 5) {
            return "bhsrd".charAt(random.nextInt(5)) + "";
        }
        return "" + random.nextInt(random.nextBoolean() ? 10 : 1000);
    }

    private String someRun() {
        StringBuilder b = new StringBuilder();
        for (int i = random.nextInt(random.nextInt(6) == 0 ? 40 : 9); i > 0; i--) {
            int digit = random.nextInt(10);
            switch (random.nextInt(6)) {
                case 0:
                case 1:
                    b.append('s').append(digit);
                    break;
                case 2:
                    b.append('t').append(digit % 4);
                    break;
                case 3:
                    b.append('d').append(1 + digit % 9);
                    break;
                case 4:
                    b.append('c').append(String.format("%02d", random.nextInt(m.spots() + 1)));
                    break;
                default:
                    b.append('l').append(String.format("%02d", random.nextInt(100)));
                    break;
            }
        }
        return b.toString();
    }
}
