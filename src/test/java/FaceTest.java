import java.lang.reflect.Field;
import java.lang.reflect.Method;
import java.lang.reflect.Modifier;
import java.util.NoSuchElementException;
import java.util.Set;
import java.util.TreeSet;

/** The public face: the constant, the constructor, every method with its types and exceptions, and nothing else. */
public final class FaceTest {
    private static final String[] FACE = {
        "int sign(int)", "boolean end(int)", "int flat()", "int rule()", "int spot(int,int)!", "int machine(int)!", "int sheet(int,int,int,int)",
        "int steps(int)", "int turn(int)", "int days(int)", "int chair(int)", "int carry(int,int)", "int load(int)", "int run()", "int undo()",
        "int been(int)", "int all()", "int never()", "int angle()", "int meets()", "int round()", "int corner(int)",
        "int way(int,int)", "int back()", "int plug()", "int doors()", "int chairs()", "int best(int)",
        "int felt(int)", "int swung(int)", "int forget()", "int held()", "int feel()",
        "int likely(int,int)", "int week(int,int)", "int looks()", "int box(int)", "int clean(int)", "int rests(int)",
        "int weeks(int,int)", "boolean keep(int)", "boolean again(int)", "int count(int)", "long row(int)!"};

    private static final Check check = new Check();

    public static void main(String[] args) {
        Class<?> face = UnderTheSofa.class;
        check.due("public and final", face.getModifiers(), Modifier.PUBLIC | Modifier.FINAL);
        check.due("constructors", face.getDeclaredConstructors().length, 1);
        check.due("public constructors without parameters", face.getConstructors()[0].getParameterCount(), 0);
        methods(face);
        fields(face);
        Set<String> names = new TreeSet<>();
        for (String method : FACE) {
            names.add(method.substring(method.indexOf(' ') + 1, method.indexOf('(')));
        }
        privateNames(face, names);
        int classes = 1;
        for (Class<?> inner : face.getDeclaredClasses()) {
            classes++;
            check.due(inner + " is private and static", inner.getModifiers(), Modifier.PRIVATE | Modifier.STATIC | Modifier.FINAL);
            privateNames(inner, names);
            check.due(inner + " has some twenty fields at most", fieldsOf(inner) <= 20, true);
        }
        check.due("some twelve classes at most", classes <= 12, true);
        check.due("some twenty fields at most", fieldsOf(face) <= 20, true);
        check.close("FaceTest");
    }

    private static void methods(Class<?> face) {
        Set<String> due = new TreeSet<>(Set.of(FACE));
        Set<String> got = new TreeSet<>();
        for (Method method : face.getDeclaredMethods()) {
            if (Modifier.isPrivate(method.getModifiers())) {
                continue;
            }
            check.due(method + " is public", method.getModifiers(), Modifier.PUBLIC);
            StringBuilder b = new StringBuilder(method.getReturnType() + " " + method.getName() + "(");
            for (Class<?> type : method.getParameterTypes()) {
                b.append(b.charAt(b.length() - 1) == '(' ? "" : ",").append(type);
            }
            b.append(')');
            for (Class<?> thrown : method.getExceptionTypes()) {
                b.append(thrown == NoSuchElementException.class ? "!" : "?");
            }
            got.add(b.toString());
        }
        for (String method : due) {
            check.due("there is " + method, got.contains(method), true);
        }
        for (String method : got) {
            check.due("the document has " + method, due.contains(method), true);
        }
    }

    private static void fields(Class<?> face) {
        for (Field field : face.getDeclaredFields()) {
            boolean isFace = field.getName().equals("NONE") && field.getType() == int.class
                && field.getModifiers() == (Modifier.PUBLIC | Modifier.STATIC | Modifier.FINAL);
            check.due(field + " is private, or of the face", isFace || Modifier.isPrivate(field.getModifiers()), true);
        }
    }

    private static int fieldsOf(Class<?> any) {
        int fields = 0;
        for (Field field : any.getDeclaredFields()) {
            boolean constant = Modifier.isStatic(field.getModifiers());
            check.due(field + " is final, if it is static", !constant || Modifier.isFinal(field.getModifiers()), true);
            fields += constant ? 0 : 1;
        }
        return fields;
    }

    private static void privateNames(Class<?> any, Set<String> names) {
        for (Method method : any.getDeclaredMethods()) {
            if (!Modifier.isPublic(method.getModifiers())) {
                check.due(method + " bears a public one's name", names.contains(method.getName()), false);
            }
            check.due(method + " has seven parameters at most", method.getParameterCount() <= 7, true);
        }
    }
}
