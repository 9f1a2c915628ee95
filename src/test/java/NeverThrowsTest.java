import java.lang.reflect.InvocationTargetException;
import java.lang.reflect.Method;
import java.util.ArrayList;
import java.util.Arrays;
import java.util.Comparator;
import java.util.List;
import java.util.NoSuchElementException;
import java.util.Random;

/** Any calls with any arguments: nothing is thrown but what the document says, where it says so. */
public final class NeverThrowsTest {
    private static final int[] EDGES = {0, 1, 2, 3, 4, 5, 6, 7, 9, 10, 12, 13, 20, 35, 36, 37, 60, 61, 99, 200, 201, 500, 999, 1000, -1, -2, -100,
        Integer.MAX_VALUE, Integer.MAX_VALUE - 1, Integer.MIN_VALUE, Integer.MIN_VALUE + 1};
    private static final String[] TEXTS = {"p..r/.#../r...", "......./", "....../....../....../....../....../......", "q", ".r#/p.", "b*(h-s)/(d+r)<9",
        "----9*999*999*999/-1", "1/0", "((((b))))", "(((((", "s9t3d9c01l99c02s9", "l10s9", "c99", "s", "999*999*999*999/(0-1)", ""};

    public static void main(String[] args) throws IllegalAccessException {
        List<Method> face = new ArrayList<>(Arrays.asList(UnderTheSofa.class.getMethods()));
        face.removeIf(method -> method.getDeclaringClass() != UnderTheSofa.class);
        face.sort(Comparator.comparing(Method::getName));
        int wrong = 0;
        for (int seed = 0; seed < 400 && wrong < 5; seed++) {
            wrong += run(face, new Random(seed), seed);
        }
        System.out.println("NeverThrowsTest: " + wrong + " wrong");
        if (wrong != 0) {
            System.exit(1);
        }
    }

    private static int run(List<Method> face, Random random, int seed) throws IllegalAccessException {
        UnderTheSofa x = new UnderTheSofa();
        for (int i = 0; i < 512; i++) {
            if (random.nextInt(8) == 0) {
                Check.tell(x, TEXTS[random.nextInt(TEXTS.length)]);
            }
            Method method = face.get(random.nextInt(face.size()));
            Object[] arguments = new Object[method.getParameterCount()];
            for (int k = 0; k < arguments.length; k++) {
                arguments[k] = random.nextInt(5) == 0 ? random.nextInt() : EDGES[random.nextInt(EDGES.length)];
            }
            try {
                method.invoke(x, arguments);
            } catch (InvocationTargetException e) {
                boolean said = method.getExceptionTypes().length == 1 && e.getCause().getClass() == NoSuchElementException.class;
                if (!said) {
                    System.out.println("run " + seed + ", call " + i + ": " + method.getName() + Arrays.toString(arguments) + " threw " + e.getCause());
                    return 1;
                }
            }
        }
        return 0;
    }
}
