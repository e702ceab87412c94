import java.io.IOException;
import java.nio.file.Files;
import java.nio.file.Path;
import java.util.List;

/** Rules of LANGUAGE.md that the text of the program shows. */
public final class LanguageTest {
    /** What the rules leave out, as it would be written. */
    private static final String[] LEFT_OUT = {"->", "::", "\\bfinally\\b", "\\bsynchronized\\b", "\\bassert\\b",
        "\\bcatch\\b", "\\btry\\b", "Exact\\(", "\\bpackage\\b", "\\bSystem\\.(?!arraycopy\\()", "\\bstatic \\{",
        "\\bextends\\b", "\\bprotected\\b", "\\bMath\\.(?!max\\(|min\\()", "\\bvar\\b", "\\bObject\\b"};
    private static final String THROW =
        "throw new (IllegalState|IllegalArgument|IndexOutOfBounds|Arithmetic|UnsupportedOperation|NoSuchElement)"
        + "(Exception)\\(\"[a-z ,0-9]+\"\\);";

    public static void main(String[] args) throws IOException {
        Path path = Path.of(args.length > 0 ? args[0] : "src/main/java/CeilingWorkbench.java");
        List<String> lines = Files.readAllLines(path);
        int methodStart = -1;
        for (int k = 0; k < lines.size(); k++) {
            String line = lines.get(k);
            String code = line.strip();
            Check.due("line " + (k + 1) + " has at most 120 signs", line.length() <= 120, true);
            if (code.startsWith("//") || code.startsWith("*") || code.startsWith("/**")) {
                continue;
            }
            leftOut(k + 1, code);
            imports(k + 1, code);
            if (code.startsWith("throw ")) {
                Check.due("line " + (k + 1) + " throws by rule 6", code.matches(THROW), true);
            }
            if (code.endsWith(") {") && code.matches("(public|private) .*")) {
                methodStart = k;
            }
            if (code.equals("}") && methodStart >= 0 && indent(line) == indent(lines.get(methodStart))) {
                Check.due("line " + (methodStart + 1) + ": a short method", k - methodStart <= 60, true);
                methodStart = -1;
            }
        }
        Check.end("LanguageTest");
    }

    private static int indent(String line) {
        return line.length() - line.stripLeading().length();
    }

    private static void leftOut(int number, String code) {
        for (String form : LEFT_OUT) {
            Check.due("line " + number + " has " + form, code.matches(".*" + form + ".*"), false);
        }
    }

    private static void imports(int number, String code) {
        if (code.startsWith("import ")) {
            Check.due("line " + number, code, "import java.util.NoSuchElementException;");
        }
    }
}
