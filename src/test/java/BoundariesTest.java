import java.util.Set;

/** The edges that the document names: a check for each, which quotes its words; and no clause is left out. */
public final class BoundariesTest {
    private static final Set<String> WITHOUT_EDGE = Set.of(
            "An optical fiber trace reader: a link of sections, splices and connectors makes a trace, with losses spread by"
            + " the pulse, reflections, dead zones, ghosts by echoes, and noise that is averaged over pulses;",
            "the reader finds events in a trace, measures losses of events and sections so that they add up, tells ghosts"
            + " with what made them, which parts of the link are hidden or missed and why, and compares traces with stored ones;",
            "links come from texts.",
            "what later calls answer is free.",
            "Losses, heights and levels are whole numbers;",
            "A part is",
            "Let v(x) be the samples.",
            "The constants:",
            "The constructor and the methods follow, a promise each: the signature, then what it does.",
            "Appends a character to the text.",
            "Tells about the fault of the text.",
            "Adds a part.",
            "Removes a part.",
            "Sets a setting of the pulse or of the reader.",
            "Counts parts, or events, by findings.",
            "Returns a number.",
            "Returns a property of a part.",
            "Returns a property of an event.",
            "Returns a sum over events.",
            "Returns something of the trace.",
            "Returns that;",
            "Returns the line loss up to a place.",
            "Returns the line loss;",
            "Returns the number;",
            "Returns the number of pulses;",
            "Returns the number of the event;",
            "Returns the property;",
            "Returns the sum;",
            "Returns the width;");

    private BoundariesTest() {
    }

    public static void main(String[] args) {
        LinkEdges.check();
        TraceEdges.check();
        ReadingEdges.check();
        FindingEdges.check();
        TextEdges.check();
        ChangeEdges.check();
        for (String clause : Document.unquoted(WITHOUT_EDGE)) {
            Checks.due("checks of '" + clause + "'", 0, 1);
        }
        Checks.finish();
    }
}
