import java.io.IOException;
import java.nio.file.Path;
import java.util.List;

/** The two runs of calls under "Examples" in the document, as they were written out and as they stand there. */
public final class ExamplesTest {
    public static void main(String[] args) throws IOException {
        first();
        second();
        asTheyStand(Path.of(args.length > 1 ? args[1] : "../shared/DOC.md"));
        Check.end("ExamplesTest");
    }

    private static void asTheyStand(Path document) throws IOException {
        List<List<Written.Row>> examples = Written.examples(document);
        Check.due("examples of the document", examples.size(), 2);
        for (List<Written.Row> example : examples) {
            Written.check("as it stands there", new CeilingWorkbench(), example);
        }
    }

    private static void first() {
        CeilingWorkbench x = new CeilingWorkbench();
        Check.due("addTask", x.addTask(5, 10, 10, 0), 0);
        Check.due("addTask", x.addTask(1, 30, 30, 0), 1);
        Check.due("addSegment", x.addSegment(0, 0, 2), 1);
        Check.due("addSegment", x.addSegment(1, 0, 4), 1);
        Check.due("ceiling", x.ceiling(0), 5);
        Check.due("blocking", x.blocking(0), 3);
        Check.due("bound(0)", x.bound(0), 5);
        Check.due("witness(0)", x.witness(0), 5);
        Check.due("bound(1)", x.bound(1), 6);
        Check.due("run", x.run(12), 3);
        Check.due("ranAt", x.ranAt(2), 1);
        Check.due("holder", x.holder(0), -1);
        Check.due("result", x.result(0, 5), 2);
        Check.due("utilization", x.utilization(), 0.6666666666666666);
    }

    private static void second() {
        CeilingWorkbench x = new CeilingWorkbench();
        Check.due("addTask", x.addTask(2, 8, 4, 1), 0);
        Check.due("addSegment", x.addSegment(0, -1, 6), 1);
        Check.due("setServer", x.setServer(5, 2, 6), false);
        Check.due("request", x.request(0, 3), 0);
        Check.due("run(3)", x.run(3), 0);
        Check.due("balance", x.balance(), 0);
        Check.due("nextReplenishment", x.nextReplenishment(), 6);
        Check.due("run(7)", x.run(7), 1);
        Check.due("requestResponse", x.requestResponse(0), 7);
        Check.due("result", x.result(0, 1), 1);
    }
}
