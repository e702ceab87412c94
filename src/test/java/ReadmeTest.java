import java.io.IOException;
import java.lang.reflect.Method;
import java.lang.reflect.Modifier;
import java.nio.file.Files;
import java.nio.file.Path;
import java.util.List;

/** What README.md tells: its calls have the answers behind them, and no call and no test is left out. */
public final class ReadmeTest {
    public static void main(String[] args) throws IOException {
        Path document = Path.of(args.length > 1 ? args[1] : "../shared/DOC.md");
        Path readme = Path.of(args.length > 2 ? args[2] : "README.md");
        List<List<Written.Row>> blocks = Written.blocks(readme);
        for (List<Written.Row> block : blocks) {
            Written.check("the workbench", new CeilingWorkbench(), block);
            Written.check("the model", new Model(), block);
        }
        for (List<Written.Row> example : Written.examples(document)) {
            boolean isThere = blocks.stream().anyMatch(block -> Written.isWithin(example, block));
            Check.due("the document's example " + example, isThere, true);
        }
        namesAll(Files.readString(readme), readme.toAbsolutePath().getParent().resolve("src/test/java"));
        Check.end("ReadmeTest");
    }

    private static void namesAll(String text, Path tests) throws IOException {
        for (Method method : CeilingWorkbench.class.getDeclaredMethods()) {
            if (Modifier.isPublic(method.getModifiers())) {
                Check.due("names " + method.getName(), text.contains("`" + method.getName() + "`"), true);
            }
        }
        try (var files = Files.newDirectoryStream(tests, "*Test.java")) {
            for (Path file : files) {
                String name = file.getFileName().toString().replace(".java", "");
                Check.due("names " + name, text.contains("`" + name + "`"), true);
            }
        }
    }
}
