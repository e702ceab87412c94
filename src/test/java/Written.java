import java.io.IOException;
import java.nio.file.Files;
import java.nio.file.Path;
import java.util.ArrayList;
import java.util.Arrays;
import java.util.List;
import java.util.regex.Matcher;
import java.util.regex.Pattern;

/** Runs of calls as they are written in the document and in README.md, each call with its answer. */
final class Written {
    private static final Pattern CALL = Pattern.compile("(\\w+)\\(([-0-9, ]*)\\)");
    private static final Pattern ANSWERED =
        Pattern.compile("bench\\.(\\w+\\([-0-9, ]*\\));\\s+// (?:throws )?([^:\\s]+)(?:: .+)?");
    private static final Pattern TYPED =
        Pattern.compile("for \\(char c : \"([^\"]*)\"\\.toCharArray\\(\\)\\) \\{ bench\\.append\\(c\\); \\}");
    private static final String MADE = "CeilingWorkbench bench = new CeilingWorkbench();";

    /** A call with its answer, or a text that is typed before the next call. */
    record Row(String call, String answer) {
    }

    private Written() {
    }

    /** The runs under "Examples" in the document. */
    static List<List<Row>> examples(Path document) throws IOException {
        String text = Files.readString(document);
        int begin = text.indexOf("\nExamples: ");
        int end = text.indexOf("\nThe constructor and the methods follow");
        List<List<Row>> runs = new ArrayList<>();
        if (begin < 0 || end < begin) {
            return runs;
        }
        String[] parts = text.substring(begin, end).split("\n- ");
        for (String part : Arrays.asList(parts).subList(1, parts.length)) {
            List<Row> rows = new ArrayList<>();
            for (String row : part.strip().replaceAll("\\s+", " ").split("; ")) {
                int colon = row.indexOf("): ") + 1;
                rows.add(new Row(row.substring(0, colon), row.substring(colon + 2)));
            }
            runs.add(rows);
        }
        return runs;
    }

    /** The runs in README.md, one in each Java block; a line of another form is told. */
    static List<List<Row>> blocks(Path readme) throws IOException {
        List<List<Row>> runs = new ArrayList<>();
        String[] parts = Files.readString(readme).split("```java\n");
        for (String part : Arrays.asList(parts).subList(1, parts.length)) {
            String[] lines = part.substring(0, part.indexOf("```")).split("\n");
            Check.due("a block begins with", lines[0], MADE);
            List<Row> rows = new ArrayList<>();
            for (String line : Arrays.asList(lines).subList(1, lines.length)) {
                rows.add(row(line));
            }
            runs.add(rows);
        }
        return runs;
    }

    private static Row row(String line) {
        Matcher answered = ANSWERED.matcher(line);
        if (answered.matches()) {
            return new Row(answered.group(1), answered.group(2));
        }
        Matcher typed = TYPED.matcher(line);
        Check.due("a call with its answer, or a text that is typed: " + line, typed.matches(), true);
        return new Row(typed.matches() ? typed.group(1) : "", null);
    }

    /** Makes a run on a new workbench or model, and compares each answer with the one that is written. */
    static void check(String where, Object target, List<Row> rows) {
        for (Row row : rows) {
            if (row.answer() == null) {
                Calls.make(target, "type " + row.call());
            } else {
                Check.due(where + ": " + row.call(), answer(target, row.call()), row.answer());
            }
        }
    }

    private static String answer(Object target, String call) {
        Matcher m = CALL.matcher(call);
        if (!m.matches()) {
            return "no call";
        }
        String numbers = m.group(2).replace(", ", " ");
        return String.valueOf(Calls.answer(target, (m.group(1) + " " + numbers).strip()));
    }

    /** Whether all rows of a run stand in another one, in their order. */
    static boolean isWithin(List<Row> rows, List<Row> longer) {
        int found = 0;
        for (Row row : longer) {
            if (found < rows.size() && rows.get(found).equals(row)) {
                found++;
            }
        }
        return found == rows.size();
    }
}
