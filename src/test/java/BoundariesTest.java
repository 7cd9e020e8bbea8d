/** Each sentence of the document that names a boundary case, with a test of its own. */
public final class BoundariesTest {
    public static void main(String[] args) throws Exception {
        Sentences.read();
        BoundariesOfTerms.run();
        BoundariesOfEngines.run();
        BoundariesOfOil.run();
        BoundariesOfVigils.run();
        BoundariesOfRepairs.run();
        BoundariesOfCommands.run();
        BoundariesOfLine.run();
        BoundariesOfUndo.run();
        Sentences.end();
        Checks.end();
    }
}
