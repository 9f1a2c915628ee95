import java.io.IOException;
import java.lang.reflect.Method;
import java.lang.reflect.Modifier;
import java.net.URL;
import java.net.URLClassLoader;
import java.nio.file.Files;
import java.nio.file.Path;
import java.util.ArrayList;
import java.util.List;
import java.util.regex.Matcher;
import java.util.regex.Pattern;
import javax.tools.JavaCompiler;
import javax.tools.ToolProvider;

/** README.md: its code compiles, answers what stands behind each line of it, and the page names every call and every test. */
public final class ReadmeTest {
    private static final Pattern ASKED = Pattern.compile("(x\\..*);\\s*// (-?\\d+|true|false)(, row((?: -?\\d+)*))?(?::.*)?");
    private static final String NAME = "ReadmeExample";

    private static final Check check = new Check();

    public static void main(String[] args) throws IOException, ReflectiveOperationException {
        String page = Files.readString(Path.of("README.md"));
        namesEveryCall(page);
        namesEveryTest(page);
        namesNoOtherTest(page);
        List<String> blocks = codeOf(page);
        check.due("blocks of code", blocks.size(), 2);
        String wrong = answersOf(exampleOf(blocks.get(0), blocks.get(1)));
        System.out.print(wrong);
        check.due("the example answers as the page says", wrong.isEmpty(), true);
        check.close("ReadmeTest");
    }

    private static void namesEveryCall(String page) {
        for (Method method : UnderTheSofa.class.getDeclaredMethods()) {
            int parameters = method.getParameterCount();
            if (Modifier.isPublic(method.getModifiers())) {
                String call = "`" + method.getName() + "\\(" + (parameters == 0 ? "" : "\\w+(, \\w+){" + (parameters - 1) + "}") + "\\)`";
                check.due("the page names " + method, Pattern.compile(call).matcher(page).find(), true);
            }
        }
    }

    private static void namesEveryTest(String page) throws IOException {
        try (var files = Files.list(Path.of("src/test/java"))) {
            files.map(file -> file.getFileName().toString().replace(".java", ""))
                .filter(name -> name.endsWith("Test") && !name.endsWith("EdgesTest"))
                .forEach(name -> check.due("the page names " + name, page.contains("`" + name + "`"), true));
        }
    }

    private static void namesNoOtherTest(String page) {
        Matcher name = Pattern.compile("`(\\w+Test|SofaModel|Edges)`").matcher(page);
        while (name.find()) {
            check.due("there is " + name.group(1), Files.exists(Path.of("src/test/java", name.group(1) + ".java")), true);
        }
    }

    private static List<String> codeOf(String page) {
        List<String> blocks = new ArrayList<>();
        Matcher block = Pattern.compile("(?ms)^```java\n(.*?)^```").matcher(page);
        while (block.find()) {
            blocks.add(block.group(1));
        }
        return blocks;
    }

    /** A class of the page's code, whose method go() answers what is wrong in it. */
    private static String exampleOf(String helper, String example) {
        StringBuilder code = new StringBuilder("public final class " + NAME + " {\n" + helper + """
            static StringBuilder wrong = new StringBuilder();
            static void due(String call, Object got, Object want) {
                if (!got.toString().equals(want.toString())) {
                    wrong.append("README.md: " + call + " answered " + got + ", the page says " + want + "\\n");
                }
            }
            static String row(UnderTheSofa x) {
                String row = "";
                for (int i = 0; i < x.count(9); i++) {
                    row += " " + x.row(i);
                }
                return row;
            }
            public static String go() {
            """);
        for (String line : example.split("\n")) {
            code.append(lineOf(line)).append('\n');
        }
        return code.append("return wrong.toString();\n}\n}\n").toString();
    }

    private static String lineOf(String line) {
        Matcher asked = ASKED.matcher(line);
        if (!asked.matches()) {
            check.due("a line without an answer tells a text or makes an object: " + line, line.matches("(tell\\(|UnderTheSofa ).*;"), true);
            return line;
        }
        String call = asked.group(1);
        String due = "due(\"" + call + "\", " + call + ", " + asked.group(2) + ");";
        return asked.group(3) == null ? due : due + " due(\"the row of " + call + "\", row(x), \"" + asked.group(4) + "\");";
    }

    private static String answersOf(String code) throws IOException, ReflectiveOperationException {
        Path directory = Files.createTempDirectory("readme");
        Path source = directory.resolve(NAME + ".java");
        Files.writeString(source, code);
        try (URLClassLoader loader = new URLClassLoader(new URL[] {directory.toUri().toURL()})) {
            JavaCompiler compiler = ToolProvider.getSystemJavaCompiler();
            String classes = System.getProperty("java.class.path");
            if (compiler.run(null, null, null, "-cp", classes, "-d", directory.toString(), source.toString()) != 0) {
                return "README.md: its code does not compile\n";
            }
            return (String) loader.loadClass(NAME).getMethod("go").invoke(null);
        } finally {
            for (String file : new String[] {NAME + ".class", NAME + ".java", ""}) {
                Files.deleteIfExists(directory.resolve(file));
            }
        }
    }
}
