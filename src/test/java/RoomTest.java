import java.lang.management.ManagementFactory;

/** An object and 512 calls, the dearest ones too: nothing is made behind the constructor, as all calls of a run live in one room. */
public final class RoomTest {
    private static final int CALLS = 512;
    private static final long MOST_OF_AN_OBJECT = 40_000;

    public static void main(String[] args) {
        long sum = dearCalls(new UnderTheSofa());
        com.sun.management.ThreadMXBean bean = (com.sun.management.ThreadMXBean) ManagementFactory.getThreadMXBean();
        long ahead = bean.getCurrentThreadAllocatedBytes();
        UnderTheSofa x = new UnderTheSofa();
        long made = bean.getCurrentThreadAllocatedBytes();
        sum += dearCalls(x);
        long behind = bean.getCurrentThreadAllocatedBytes();
        System.out.println("RoomTest: " + (made - ahead) + " bytes for an object, " + (behind - made) + " for its calls (" + sum + ")");
        if (made - ahead > MOST_OF_AN_OBJECT || behind - made > 1000) {
            System.exit(1);
        }
    }

    private static long dearCalls(UnderTheSofa x) {
        long sum = Check.flat(x, "p.r.../....../....../..r#../....../......");
        for (int i = 0; i < CALLS; i++) {
            sum += call(x, i);
        }
        return sum;
    }

    private static long call(UnderTheSofa x, int i) {
        switch (i % 26) {
            case 0: return x.plug();
            case 1: return x.best(6);
            case 2: return x.angle();
            case 3: return x.box(500);
            case 4: return x.doors();
            case 5: return x.way(0, 35);
            case 6: return x.likely(10, 0);
            case 7: return x.weeks(i, 60);
            case 8: return x.steps(20);
            case 9: return x.days(1);
            case 10: return x.carry(i % 7, 2);
            case 11: return x.never();
            case 12: return x.corner(999);
            case 13: return x.felt(1);
            case 14: return x.feel();
            case 15: return x.chair(i % 9);
            case 16: return x.undo();
            case 17: return x.week(3, 4);
            case 18: return x.rests(9);
            case 19: return x.clean(2);
            case 20: return x.keep(1) ? 1 : 0;
            case 21: return x.again(1) ? 1 : 0;
            case 22: return Check.rule(x, "1+b*(2-h)<9/d");
            case 23: return Check.run(x, "s5t1d2c07l50");
            case 24: return x.sheet(2, 20, 3, 4);
            default: return x.back() + x.looks() + x.held();
        }
    }
}
