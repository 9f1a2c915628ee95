import java.io.IOException;
import java.nio.file.Files;
import java.nio.file.Path;
import java.util.List;
import java.util.regex.Pattern;

/** What of LANGUAGE.md can be seen in the source's lines: words that it rules out, imports, signs, lengths of methods. */
public final class LanguageTest {
    private static final String[] RULED_OUT = {"->", "::", "\\bcatch\\b", "\\btry\\b", "\\bfinally\\b", "\\bsynchronized\\b", "\\bassert\\b",
        "\\bvolatile\\b", "\\btransient\\b", "\\bnative\\b", "\\bprotected\\b", "\\bSystem\\.(?!arraycopy)", "Exact\\(", "\\bThread\\b",
        "\\bRandom\\b", "\\bMath\\.(?!max|min|abs|floorMod|floorDiv)", "\\bLong\\.(?!bitCount)", "\\bInteger\\.(?!bitCount)",
        "\\bArrays\\.(?!fill|copyOf)", "\\bwhile\\b", "\\bvar\\b", "\\bdouble\\b", "\\bfloat\\b", "^package", "\\bstatic \\{"};

    private static final Check check = new Check();

    public static void main(String[] args) throws IOException {
        List<String> lines = Files.readAllLines(Path.of("src/main/java/UnderTheSofa.java"));
        int begin = -1;
        for (int i = 0; i < lines.size(); i++) {
            String line = lines.get(i);
            check.due("line " + (i + 1) + " has plain signs", line.chars().allMatch(c -> c >= 32 && c < 127), true);
            String code = line.replaceAll("//.*", "").replaceAll("^\\s*(/\\*\\*|\\*).*", "");
            for (String out : RULED_OUT) {
                check.due("line " + (i + 1) + " has " + out, Pattern.compile(out).matcher(code).find(), false);
            }
            if (code.startsWith("import")) {
                check.due("line " + (i + 1) + " imports what may be", code.matches("import java.util.(Arrays|NoSuchElementException);"), true);
            }
            if (code.matches(" {4}(?: {4})?[a-zA-Z].*\\) (throws NoSuchElementException )?\\{")) {
                begin = i;
            }
            if (begin >= 0 && code.matches(" {4}(?: {4})?\\}")) {
                check.due("the method at line " + (begin + 1) + " has sixty lines at most", i - begin < 60, true);
                begin = -1;
            }
        }
        check.close("LanguageTest");
    }
}
