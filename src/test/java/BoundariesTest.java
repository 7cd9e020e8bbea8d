/** Each sentence of the document that names a boundary case, with a test of its own. */
public final class BoundariesTest {
    private interface Part {
        void run();
    }

    public static void main(String[] args) throws Exception {
        Sentences.read();
        toItsEnd("terms", BoundariesOfTerms::run);
        toItsEnd("engines", BoundariesOfEngines::run);
        toItsEnd("oil", BoundariesOfOil::run);
        toItsEnd("vigils", BoundariesOfVigils::run);
        toItsEnd("repairs", BoundariesOfRepairs::run);
        toItsEnd("commands", BoundariesOfCommands::run);
        toItsEnd("line", BoundariesOfLine::run);
        toItsEnd("undo", BoundariesOfUndo::run);
        Sentences.end();
        Checks.end();
    }

    /** An exception that a part did not reckon with is wrong, but does not keep the other parts from being run. */
    private static void toItsEnd(String name, Part part) {
        Checks.due("the part of " + name, "at its end", () -> {
            part.run();
            return "at its end";
        });
    }
}
