/** Boundary cases of the texts: "Text" and the promises 8 to 10. */
final class TextEdges {
    private static final String MALFORMED = "IllegalArgumentException";
    private static final String REFUSED = "IllegalStateException";
    private static final String[] COMMANDS = {"task 999 999 999 999", "server 999 999 999", "request 999 999",
        "segment 999 999 999", "segment 999 none 999", "policy continue", "policy abort", "policy skip"};

    private TextEdges() {
    }

    static void all() {
        text();
        promiseAppend();
        promiseConfigure();
        Sentences.section("Promise 10");
        Sentences.holds("Returns the error position of the last text that was malformed.",
            TextEdges::lastErrorPosition);
        Sentences.holds("Throws NoSuchElementException if there was none", TextEdges::noErrorPosition);
    }

    private static void text() {
        Sentences.section("Text");
        Sentences.holds("The input buffer holds up to 60 characters with codes from 32 to 126.",
            TextEdges::sixtyCharacters);
        Sentences.holds("A text consists of words with exactly one space between one and the next.",
            TextEdges::exactlyOneSpace);
        Sentences.holds("It begins with the name of a command, which is followed by its arguments: \"task\" by a"
            + " priority, a period, a deadline and an offset; \"server\" by a priority, a budget and a period;"
            + " \"request\" by a time and a length; \"segment\" by a task, a resource or \"none\", and a length;"
            + " \"policy\" by one of the names \"continue\", \"abort\" and \"skip\".", TextEdges::commands);
        Sentences.holds("Numbers have 1 to 3 digits, without leading zero unless they are 0.", TextEdges::numbers);
        Sentences.holds("The error position of a text is the lowest index of a character with which, after the"
            + " characters before it, no such text can go on, or the length of the text if there is no such index.",
            TextEdges::errorPositions);
        Sentences.holds("Values that are out of range are no errors of this kind.", TextEdges::valuesAreNoErrors);
    }

    private static void promiseAppend() {
        Sentences.section("Promise 8");
        Sentences.holds("Appends a character to the input buffer.", TextEdges::appendedInOrder);
        Sentences.holds("Returns the number of characters in the buffer.", TextEdges::sixtyCharacters);
        Sentences.holds("Throws IllegalArgumentException if the code is not from 32 to 126", TextEdges::codes);
        Sentences.holds("Throws IllegalStateException if the buffer has 60 characters", TextEdges::fullBuffer);
    }

    private static void promiseConfigure() {
        Sentences.section("Promise 9");
        Sentences.holds("Does the command in the input buffer, as addTask, setServer, request, addSegment or setPolicy"
            + " would do it.", TextEdges::leastAndGreatestValues);
        Sentences.holds("The buffer is empty afterwards in any case.", TextEdges::emptyAfterwards);
        Sentences.holds("Returns the result of this method; for setServer 1 if it is true, otherwise 0.",
            TextEdges::results);
        Sentences.holds("Throws IllegalArgumentException if the text is malformed; the error position is then kept for"
            + " errorPosition", TextEdges::malformed);
        Sentences.holds("Throws IllegalStateException if the method would throw an exception", TextEdges::refused);
    }

    private static void sixtyCharacters() {
        CeilingWorkbench x = new CeilingWorkbench();
        for (int k = 1; k <= 60; k++) {
            Check.due("append", x.append((char) (k % 2 == 0 ? 32 : 126)), k);
        }
        Check.refused(x, "the 61st", Edges.STATE, () -> x.append(' '));
        Check.due("malformed", Check.answer(x::configure), MALFORMED);
        Check.due("its first character is wrong", x.errorPosition(), 0);
        Check.due("append to the empty buffer", x.append('a'), 1);
    }

    private static void exactlyOneSpace() {
        for (String command : COMMANDS) {
            due(" " + command, 0);
            due(command + " ", command.length());
            for (int at = command.indexOf(' '); at >= 0; at = command.indexOf(' ', at + 1)) {
                due(command.substring(0, at + 1) + command.substring(at), at + 1);
                due(command.substring(0, at) + "." + command.substring(at + 1), at);
            }
        }
        due("taskt 1 1 1 1", 4);
        due("policyskip", 6);
        due("segment 0 none1", 14);
    }

    private static void commands() {
        for (String command : COMMANDS) {
            isCommand(command);
            // Without its last word, or with one more, it is none.
            String shorter = command.substring(0, command.lastIndexOf(' '));
            due(shorter, shorter.length());
            due(command + " 0", command.length());
        }
        due("policy none", 7);
        due("policy 0", 7);
        due("segment none 0 1", 8);
        due("segment 0 0 none", 12);
        due("task none 1 1 1", 5);
        due("server 1 1 none", 11);
        due("request none 1", 8);
    }

    private static void numbers() {
        String[] good = {"0", "1", "9", "10", "90", "99", "100", "909", "999"};
        for (String number : good) {
            isCommand("task " + number + " 1 1 " + number);
            isCommand("server " + number + " 1 " + number);
            isCommand("request " + number + " " + number);
            isCommand("segment " + number + " " + number + " " + number);
        }
        String[] bad = {"00", "01", "010", "000", "1000", "9999", "-1", "+1", "1x", "/", ":"};
        int[] at = {1, 1, 1, 1, 3, 3, 0, 0, 1, 0, 0};
        for (int k = 0; k < bad.length; k++) {
            due("task " + bad[k] + " 1 1 1", 5 + at[k]);
            due("task 1 1 1 " + bad[k], 11 + at[k]);
            due("server 1 " + bad[k] + " 1", 9 + at[k]);
            due("request 1 " + bad[k], 10 + at[k]);
            due("segment 1 " + bad[k] + " 1", 10 + at[k]);
        }
    }

    private static void errorPositions() {
        for (String command : COMMANDS) {
            for (int length = 0; length < command.length(); length++) {
                String beginning = command.substring(0, length);
                // A number that goes on may end here as well, but then a command still lacks its last word.
                boolean isWhole = Check.configured(new CeilingWorkbench(), beginning).equals(REFUSED);
                if (!isWhole) {
                    due(beginning, length);
                }
                due(beginning + "!", length);
                due(beginning + "!" + command.substring(length), length);
            }
            due(command + "!", command.length());
            due((command + "~".repeat(60)).substring(0, 60), command.length());
        }
        due("", 0);
        due(" ", 0);
        due("sa", 1);
        due("sek", 2);
    }

    private static void valuesAreNoErrors() {
        String[] texts = {"task 0 0 0 0", "task 999 999 999 999", "server 0 0 0", "server 999 999 999", "request 0 0",
            "request 301 1", "request 999 999", "segment 0 0 0", "segment 999 999 999", "segment 5 none 10"};
        CeilingWorkbench x = new CeilingWorkbench();
        for (String text : texts) {
            Check.due(text, Check.configured(x, text), REFUSED);
            Check.due("error position of " + text, Check.answer(x::errorPosition), "NoSuchElementException");
        }
    }

    private static void appendedInOrder() {
        CeilingWorkbench x = new CeilingWorkbench();
        Check.due("typed", Check.configured(x, "task 1 23 4 56"), 0);
        int[] due = {1, 23, 4, 56};
        for (int what = 0; what < 4; what++) {
            Check.due("task(0, " + what + ")", x.task(0, what), due[what]);
        }
    }

    private static void codes() {
        CeilingWorkbench x = new CeilingWorkbench();
        for (int code = 0; code <= 65535; code++) {
            char character = (char) code;
            boolean isGood = code >= 32 && code <= 126;
            Check.due("append of " + code, Check.answer(() -> x.append(character)), isGood ? (Object) 1 : MALFORMED);
            Check.due("append after " + code, x.append('a'), isGood ? 2 : 1);
            Check.answer(x::configure);
        }
        Check.refused(x, "append of 65535", Edges.ARGUMENT, () -> x.append((char) 65535));
    }

    private static void fullBuffer() {
        CeilingWorkbench x = Check.typed(new CeilingWorkbench(), "request 0 1" + "x".repeat(49));
        Check.refused(x, "the 61st", Edges.STATE, () -> x.append('1'));
        Check.refused(x, "the 61st again", Edges.STATE, () -> x.append('1'));
        x.snapshot();
        x.restore();
        x.clear();
        x.rewind();
        Check.refused(x, "still full", Edges.STATE, () -> x.append('1'));
        Check.due("malformed", Check.answer(x::configure), MALFORMED);
        Check.due("the whole text was there", x.errorPosition(), 11);
        Check.due("room again", x.append('1'), 1);
    }

    private static void leastAndGreatestValues() {
        CeilingWorkbench x = new CeilingWorkbench();
        CeilingWorkbench y = new CeilingWorkbench();
        String[] texts = {"task 1 1 1 0", "task 9 60 60 60", "segment 0 none 1", "segment 0 none 9", "segment 1 0 1",
            "segment 1 3 9", "server 2 1 1", "server 8 9 60", "request 0 1", "request 300 9", "policy abort",
            "policy continue", "policy skip"};
        for (String text : texts) {
            Check.due(text, Check.configured(x, text) instanceof Integer, true);
        }
        y.addTask(1, 1, 1, 0);
        y.addTask(9, 60, 60, 60);
        y.addSegment(0, -1, 1);
        y.addSegment(0, -1, 9);
        y.addSegment(1, 0, 1);
        y.addSegment(1, 3, 9);
        y.setServer(8, 9, 60);
        y.request(0, 1);
        y.request(300, 9);
        y.setPolicy(2);
        Check.due("as by the methods", View.of(x), View.of(y));
        Check.due("run", Edges.runAll(x, 400), Edges.runAll(y, 400));
        Check.due("as by the methods at 400", View.of(x), View.of(y));
    }

    private static void emptyAfterwards() {
        CeilingWorkbench x = new CeilingWorkbench();
        String[] texts = {"policy skip", "request 0 1", "task 0 1 1 0", "tusk", "", "~".repeat(60)};
        for (String text : texts) {
            Check.configured(x, text);
            Check.due("append after '" + text + "'", x.append(' '), 1);
            Check.due("the space alone", Check.answer(x::configure), MALFORMED);
        }
        nothingIsLeftOfTheTextBefore();
    }

    private static void nothingIsLeftOfTheTextBefore() {
        CeilingWorkbench x = new CeilingWorkbench();
        for (String command : COMMANDS) {
            String words = command.replaceAll("[0-9]+$", "");
            for (int length = 0; length < words.length(); length++) {
                Check.configured(x, command);
                Check.due("a beginning of " + command, Check.configured(x, words.substring(0, length)), MALFORMED);
                Check.due("its error position", x.errorPosition(), length);
            }
        }
    }

    private static void results() {
        CeilingWorkbench x = new CeilingWorkbench();
        for (int task = 0; task < 5; task++) {
            Check.due("task", Check.configured(x, "task " + (task + 1) + " 60 60 0"), task);
        }
        for (int k = 1; k <= 6; k++) {
            Check.due("segment", Check.configured(x, "segment 4 none 9"), k);
        }
        Check.due("the first server", Check.configured(x, "server 9 1 1"), 0);
        Check.due("the second server", Check.configured(x, "server 9 1 1"), 1);
        for (int k = 0; k < 12; k++) {
            Check.due("request", Check.configured(x, "request 300 9"), k);
        }
        Check.due("policy", Check.configured(x, "policy skip"), 0);
        Check.due("policy", Check.configured(x, "policy abort"), 2);
        Check.due("policy", Check.configured(x, "policy continue"), 1);
    }

    private static void malformed() {
        due("", 0);
        due("task 1 1 1", 10);
        CeilingWorkbench x = Edges.withTasks(5, 400);
        Check.due("also where the command would be refused", Check.configured(x, "task 0 0 0 0 0"), MALFORMED);
        Check.due("kept", x.errorPosition(), 12);
        String before = View.of(x);
        Check.due("the same again", Check.configured(x, "task 0 0 0 0 0"), MALFORMED);
        Check.due("nothing else changes", View.of(x), before);
    }

    private static void refused() {
        CeilingWorkbench x = Edges.full();
        Check.answer(x::configure);
        String[] atZero = {"task 2 10 10 0", "task 0 10 10 0", "segment 0 0 1", "segment 5 0 1", "segment 0 4 1",
            "segment 0 none 10", "server 1 1 1", "server 10 1 1", "server 2 0 1", "server 2 1 61", "request 0 1",
            "request 301 1", "request 0 0", "request 0 10"};
        dueRefused(x, atZero);
        CeilingWorkbench y = Edges.withTasks(1, 1);
        String[] atOne = {"task 9 10 10 0", "segment 0 none 1", "server 9 1 1", "request 0 1"};
        dueRefused(y, atOne);
        CeilingWorkbench z = Edges.withTasks(1, 0);
        String[] taken = {"task 1 10 10 0", "server 1 1 1", "segment 1 none 1"};
        dueRefused(z, taken);
    }

    private static void dueRefused(CeilingWorkbench x, String[] texts) {
        String before = View.of(x);
        for (String text : texts) {
            Check.due(text, Check.configured(x, text), REFUSED);
            Check.due(text + " changes nothing else", View.of(x), before);
        }
    }

    private static void lastErrorPosition() {
        CeilingWorkbench x = new CeilingWorkbench();
        Check.configured(x, "policy skip" + "~".repeat(49));
        Check.due("of a full buffer", x.errorPosition(), 11);
        Check.configured(x, "policy skip");
        Check.configured(x, "task 0 0 0 0");
        x.append('x');
        x.snapshot();
        x.run(1);
        x.restore();
        x.rewind();
        x.clear();
        Check.due("kept by all but malformed texts", x.errorPosition(), 11);
        Check.answer(x::configure);
        Check.due("the least", x.errorPosition(), 0);
        Check.configured(x, "task 999 999 999 99");
        Check.due("kept by a refused text", x.errorPosition(), 0);
        Check.configured(x, "task 999 999 999 999x");
        Check.due("the greatest", x.errorPosition(), 20);
    }

    private static void noErrorPosition() {
        CeilingWorkbench x = new CeilingWorkbench();
        Check.refused(x, "at first", Edges.NO_SUCH, x::errorPosition);
        Check.configured(x, "policy abort");
        Check.configured(x, "task 0 0 0 0");
        Check.typed(x, "tusk");
        x.clear();
        Check.refused(x, "only configure finds one", Edges.NO_SUCH, x::errorPosition);
    }

    private static void isCommand(String text) {
        Object answer = Check.configured(new CeilingWorkbench(), text);
        Check.due("'" + text + "' is a command", answer.equals(REFUSED) || answer instanceof Integer, true);
    }

    private static void due(String text, int position) {
        CeilingWorkbench x = new CeilingWorkbench();
        Check.due("'" + text + "'", Check.configured(x, text), MALFORMED);
        Check.due("error position of '" + text + "'", x.errorPosition(), position);
    }
}
