import java.util.Arrays;

/** The boundary cases of promises 50 to 55. */
final class BoundariesOfLine extends Boundaries {
    private BoundariesOfLine() {
    }

    static void run() {
        describeEngine();
        describeRota();
        lineAt();
        meanOil();
        vigilShare();
        isConsistent();
    }

    private static void describeEngine() {
        under("Promise 50");
        says("Writes an engine to the line, replacing its previous content: its number, \":\", and the cylinders in "
                + "firing order, with \"*\" before the one that is due, and \"!\" behind each one without oil.");
        EngineMonastery m = with(3, 3, 3, 8);
        due("0:*012", () -> engineOf(m, 0));
        due("3:*01234567", () -> engineOf(m, 3));
        m.run(3, 39);
        // Cylinder 7 has its last unit and is due.
        due("3:0!1!2!3!4!5!6!*7", () -> engineOf(m, 3));
        m.run(3, 1);
        due("3:*0!1!2!3!4!5!6!7!", () -> engineOf(m, 3));
        due("0:*012", () -> engineOf(m, 0));
        m.exchange(0, 0, 2);
        m.run(0, 2);
        due("0:21*0", () -> engineOf(m, 0));
        m.oil(3, 7, 1);
        due("3:*0!1!2!3!4!5!6!7", () -> engineOf(m, 3));
        rotaOf(m);
        due("0:21*0", () -> engineOf(m, 0));
        m.run(0, 12);
        due("0:2!1!*0", () -> engineOf(m, 0));

        says("An example is \"0:02*1!3\".");
        EngineMonastery example = ordered(0, 2, 1, 3);
        example.oil(0, 0, 2);
        example.oil(0, 2, 2);
        example.oil(0, 3, 1);
        example.run(0, 22);
        due("0:02*1!3", () -> engineOf(example, 0));
        due(8, () -> example.describeEngine(0));

        says("Returns the length of the line.");
        due(6, () -> with(3).describeEngine(0));
        due(11, () -> with(8).describeEngine(0));
        due(19, () -> FULL.make().describeEngine(3));
        EngineMonastery shorter = with(8, 3);
        due(11, () -> shorter.describeEngine(0));
        due(6, () -> shorter.describeEngine(1));
        due(INDEX, () -> shorter.lineAt(6));

        says("Throws `IndexOutOfBoundsException` if there is no such engine");
        refusedBeside(0, 1, INDEX, BUSY, EngineMonastery::describeEngine);
        refusedBeside(0, 3, INDEX, FULL, EngineMonastery::describeEngine);
        refused(INDEX, EMPTY, x -> x.describeEngine(0));
    }

    private static void describeRota() {
        under("Promise 51");
        says("Writes the best rota to the line, replacing its previous content: for each vigil from 0 on the monk who "
                + "keeps it, or \"-\".");
        due("--------", () -> rotaOf(new EngineMonastery()));
        due("0------5", () -> rotaOf(able("0", "", "", "", "", "7")));
        due("012345--", () -> rotaOf(able("0", "1", "2", "3", "4", "5")));
        due("---1-0--", () -> rotaOf(BUSY.make()));
        due("012345--", () -> rotaOf(able("0", "01", "12", "23", "34", "45")));
        EngineMonastery m = FULL.make();
        m.describeEngine(0);
        due("0-12345-", () -> rotaOf(m));

        says("Returns the length of the line, 8.");
        due(8, () -> new EngineMonastery().describeRota());
        due(8, m::describeRota);
        due('-', () -> m.lineAt(7));
        due(INDEX, () -> m.lineAt(8));
        due(8, () -> BUSY.make().describeRota());
    }

    private static void lineAt() {
        under("Promise 52");
        says("Returns a character of the line.");
        EngineMonastery m = with(3);
        m.describeEngine(0);
        due('0', () -> m.lineAt(0));
        due(':', () -> m.lineAt(1));
        due('*', () -> m.lineAt(2));
        due('2', () -> m.lineAt(5));
        m.run(0, 15);
        due('2', () -> m.lineAt(5));
        due(INDEX, () -> m.lineAt(6));

        says("The line is initially empty.");
        refusedBeside(0, -1, INDEX, EMPTY, EngineMonastery::lineAt);

        says("Throws `IndexOutOfBoundsException` if there is no such index");
        int length = lineOf(BUSY.make()).length();
        due(true, () -> length > 6);
        refusedBeside(0, length - 1, INDEX, BUSY, EngineMonastery::lineAt);
        Scene longest = () -> {
            EngineMonastery x = FULL.make();
            x.describeEngine(3);
            return x;
        };
        refusedBeside(0, 18, INDEX, longest, EngineMonastery::lineAt);
        due('!', () -> longest.make().lineAt(18));
        refused(INDEX, FULL, x -> x.lineAt(0));
    }

    private static void meanOil() {
        under("Promise 53");
        says("Returns the mean oil of all cylinders: the sum divided by their number, both converted to double.");
        due(5.0, () -> with(3).meanOil());
        due(5.0, () -> with(8, 8, 8, 8).meanOil());
        due(0.0, () -> FULL.make().meanOil());
        EngineMonastery m = with(3);
        m.run(0, 1);
        due(14.0 / 3.0, m::meanOil);
        m.addEngine(8);
        due(54.0 / 11.0, m::meanOil);
        m.run(0, 99);
        m.run(1, 39);
        due(1.0 / 11.0, m::meanOil);
        m.run(1, 1);
        due(0.0, m::meanOil);

        says("Throws `ArithmeticException` if there are no engines");
        refused(ARITHMETIC, EMPTY, EngineMonastery::meanOil);
        refused(ARITHMETIC, () -> able("0"), EngineMonastery::meanOil);
        Scene undone = () -> {
            EngineMonastery x = with(3);
            x.undo();
            return x;
        };
        refused(ARITHMETIC, undone, EngineMonastery::meanOil);
    }

    private static void vigilShare() {
        under("Promise 54");
        says("Returns the share of the vigils that are kept in the best rota: their number divided by 8, both "
                + "converted to float.");
        String[] vigils = {"0", "1", "2", "3", "4", "5"};
        due(0f, () -> new EngineMonastery().vigilShare());
        due(0f, () -> able("", "").vigilShare());
        for (int monks = 1; monks <= 6; monks++) {
            float due = monks / 8f;
            String[] some = Arrays.copyOf(vigils, monks);
            due(due, () -> able(some).vigilShare());
        }
        due(0.125f, () -> able("01234567").vigilShare());
        due(0.75f, () -> FULL.make().vigilShare());
    }

    private static void isConsistent() {
        under("Promise 55");
        says("Checks the invariants: for all engines turnOf() equals turnByRepeating(), evenOrders() equals "
                + "evenOrdersByTrying() for the evenness 2, and knockPeriod() equals knockPeriodByTrying() if a knock "
                + "is kept; leastOilAfter() equals leastOilAfterByGiving() for 0, 10 and 99 units if there are "
                + "engines; mostVigils() equals mostVigilsByTable(); leastPenance() equals leastPenanceByTable(); and "
                + "allOil() equals allOilByAccounts().");
        for (Scene scene : new Scene[] {EMPTY, BUSY, FULL, DRY, RESTORED}) {
            due(true, () -> scene.make().isConsistent());
            due(true, () -> Watch.changesNothing(scene, EngineMonastery::isConsistent));
        }

        says("Returns whether all of them hold.");
        due(true, () -> new EngineMonastery().isConsistent());
        due(true, () -> with(3).isConsistent());
        due(true, () -> knocked("0").isConsistent());
    }
}
