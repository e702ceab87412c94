import java.io.IOException;
import java.nio.file.Files;
import java.nio.file.Path;
import java.util.ArrayList;
import java.util.Arrays;
import java.util.List;
import java.util.Set;
import java.util.TreeSet;

/** The sentences of the document, each with the test that quotes it. */
final class Sentences {
    private static final List<String> QUOTED = new ArrayList<>();
    private static String section = "";

    private Sentences() {
    }

    static void section(String name) {
        section = name;
    }

    /** A test of its own for one sentence of the section; one that asks nothing would prove nothing. */
    static void holds(String sentence, Runnable test) {
        QUOTED.add(section + ": " + sentence);
        Check.under(section + ": " + sentence);
        int before = Check.asked();
        test.run();
        Check.due("something is asked", Check.asked() > before, true);
        Check.under("");
    }

    /** Every sentence is quoted by a test or known to name no boundary, and every quotation is right. */
    static void compare(Path document, Set<String> otherSections, Set<String> withoutBoundary) throws IOException {
        Set<String> written = new TreeSet<>(sentences(Files.readString(document)));
        for (String quoted : QUOTED) {
            Check.due("quoted: " + quoted, written.contains(quoted), true);
        }
        written.removeAll(QUOTED);
        for (String sentence : written) {
            int end = sentence.indexOf(": ");
            boolean isKnown = otherSections.contains(sentence.substring(0, end))
                || withoutBoundary.contains(sentence.substring(end + 2));
            Check.due("a test for: " + sentence, isKnown, true);
        }
    }

    private static List<String> sentences(String document) {
        List<String> found = new ArrayList<>();
        String heading = "";
        boolean isSignature = false;
        for (String paragraph : document.split("\n\\s*\n")) {
            String text = paragraph.strip().replace("`", "");
            if (text.startsWith("#")) {
                heading = text.replaceAll("^#+ ", "").replaceAll("^(Promise \\d+): .*", "$1");
                isSignature = heading.startsWith("Promise");
            } else if (isSignature || text.startsWith("java\n") || text.startsWith("----")) {
                isSignature = false;
            } else {
                String named = text.replaceAll("(?s)^([A-Z][a-z]+)[.:] .*", "$1");
                heading = named.equals(text) ? heading : named;
                addSentences(found, heading, text.replaceAll("^([A-Z][a-z]+|\\d)[.:]\\s+", ""));
            }
        }
        return found;
    }

    private static void addSentences(List<String> found, String heading, String text) {
        for (String part : text.split("\n(?=- )")) {
            String line = part.replaceAll("\\s+", " ");
            Arrays.stream(line.split("(?<=\\.) ")).forEach(sentence -> found.add(heading + ": " + sentence));
        }
    }
}
