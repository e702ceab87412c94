import java.io.IOException;
import java.nio.file.Files;
import java.nio.file.Path;
import java.util.Set;

/** Each sentence of the document that names a boundary case has a test of its own here. */
public final class EdgesTest {
    /** Their tests are FaceTest and ExamplesTest; what is not promised has none. */
    private static final Set<String> OTHER_SECTIONS = Set.of("The public face", "Examples", "Not promised");

    /** Sentences that only name what others tell the limits of. */
    private static final Set<String> WITHOUT_BOUNDARY = Set.of(
        "A workbench for real-time scheduling with fixed priorities on one processor: periodic tasks with offsets,"
            + " sections in which they hold resources by immediate priority ceilings, a sporadic server for requests,"
            + " policies for missed deadlines, a simulation unit by unit, and an analysis of response times with"
            + " blocking, which is confirmed by a witness.",
        "Making a unit at the time t of the clock means the following, in this order:",
        "- task: the task", "- resource: the resource", "- character: the character", "- time: the time of the unit",
        "- request: the request", "Makes a request.", "Sets the policy.", "Returns the error position.",
        "Returns a property of a task.", "Returns the property.", "Returns the ceiling of a resource.",
        "Returns the ceiling.", "Returns the blocking of a task.", "Returns the blocking.",
        "Returns the bound of a task.", "Returns the bound.", "Returns the time at which the job is finished.",
        "Returns true if this is so.", "Returns the load.", "Returns the hyperbolic load.", "Makes some units.",
        "Returns what ran in a unit.", "Returns the number of jobs.", "Returns the active priority.",
        "Returns the task whose job holds a resource.", "Returns a number that was counted for a task.",
        "Returns the number.", "Returns the average.", "Returns the balance.", "Returns the time.",
        "Returns the response.", "Returns the share.");

    public static void main(String[] args) throws IOException {
        TaskEdges.all();
        ServerEdges.all();
        TextEdges.all();
        AnalysisEdges.all();
        SimulationEdges.all();
        DetailsEdges.all();
        StateEdges.all();
        Path document = Path.of(args.length > 1 ? args[1] : "../shared/DOC.md");
        Check.due("the document is at " + document, Files.exists(document), true);
        Sentences.compare(document, OTHER_SECTIONS, WITHOUT_BOUNDARY);
        Check.end("EdgesTest");
    }
}
