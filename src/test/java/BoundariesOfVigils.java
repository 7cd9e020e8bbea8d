/** The boundary cases of promises 30 to 34. */
final class BoundariesOfVigils extends Boundaries {
    private BoundariesOfVigils() {
    }

    static void run() {
        addMonk();
        setAble();
        mostVigils();
        keeperOf();
    }

    private static void addMonk() {
        under("Promise 30");
        says("Adds a monk who can keep no vigil.");
        EngineMonastery m = new EngineMonastery();
        for (int monk = 0; monk < 6; monk++) {
            int next = monk;
            due(INDEX, () -> m.setAble(next, 0, false));
            due(next, m::addMonk);
            for (int vigil = 0; vigil < 8; vigil++) {
                int asked = vigil;
                due(false, () -> m.setAble(next, asked, false));
            }
        }
        due(0, m::mostVigils);
        // A number that had a monk before an undo.
        EngineMonastery again = able("01234567", "01234567");
        again.save();
        EngineMonastery fresh = new EngineMonastery();
        fresh.addMonk();
        fresh.setAble(0, 7, true);
        fresh.undo();
        fresh.undo();
        due(0, fresh::addMonk);
        due(0, fresh::mostVigils);
        due(2, again::addMonk);
        due(2, again::mostVigils);
        again.setAble(2, 3, true);
        again.restore();
        due(2, again::addMonk);
        due(false, () -> again.setAble(2, 3, false));

        says("Throws `IllegalStateException` if there are 6 monks");
        due(5, () -> able("", "", "", "", "").addMonk());
        refused(STATE, () -> able("", "", "", "", "", ""), EngineMonastery::addMonk);
        refused(STATE, FULL, EngineMonastery::addMonk);
    }

    private static void setAble() {
        under("Promise 31");
        says("Sets whether a monk can keep a vigil.");
        EngineMonastery m = able("", "");
        for (int vigil = 0; vigil < 8; vigil++) {
            int asked = vigil;
            m.setAble(1, asked, true);
            due("--------".substring(0, asked) + "1" + "-------".substring(asked), () -> rotaOf(m));
            m.setAble(1, asked, true);
            due(1, m::mostVigils);
            m.setAble(1, asked, false);
            due("--------", () -> rotaOf(m));
            m.setAble(1, asked, false);
            due("--------", () -> rotaOf(m));
        }

        says("- `vigil`: the vigil, 0 to 7");
        allowed(0, 7, false, () -> able(""), (x, vigil) -> x.setAble(0, vigil, true));
        allowed(0, 7, true, () -> able("01234567"), (x, vigil) -> x.setAble(0, vigil, true));

        says("Returns whether the monk could before the call.");
        EngineMonastery one = able("", "");
        due(false, () -> one.setAble(0, 7, true));
        due(true, () -> one.setAble(0, 7, true));
        due(true, () -> one.setAble(0, 7, false));
        due(false, () -> one.setAble(0, 7, false));
        due(false, () -> one.setAble(1, 7, true));
        due(false, () -> one.setAble(1, 6, true));

        says("Throws `IndexOutOfBoundsException` if there is no such monk or no such vigil");
        refusedBeside(0, 1, INDEX, BUSY, (x, monk) -> x.setAble(monk, 0, true));
        refusedBeside(0, 1, INDEX, BUSY, (x, monk) -> x.setAble(monk, 3, false));
        refusedBeside(0, 7, INDEX, BUSY, (x, vigil) -> x.setAble(0, vigil, true));
        refusedBeside(0, 5, INDEX, FULL, (x, monk) -> x.setAble(monk, 7, true));
        refusedBeside(0, 7, INDEX, FULL, (x, vigil) -> x.setAble(5, vigil, false));
        refused(INDEX, EMPTY, x -> x.setAble(0, 0, true));
        refused(INDEX, EMPTY, x -> x.setAble(0, 0, false));
    }

    /** The monks' vigils, and how many vigils can be kept. */
    private static final Object[][] ROTAS = {
        {0}, {0, ""}, {0, "", "", "", "", "", ""}, {1, "0"}, {1, "7"}, {1, "01234567"},
        {1, "3", "3", "3", "3", "3", "3"},
        {6, "0", "1", "2", "3", "4", "5"}, {6, "7", "6", "5", "4", "3", "2"},
        {6, "01234567", "01234567", "01234567", "01234567", "01234567", "01234567"},
        // A chain that moves all six, and one that can't.
        {6, "01", "12", "23", "34", "45", "0"}, {5, "01", "12", "23", "34", "4", "04"},
        {2, "01", "01", "01", "01"}, {3, "01", "01", "012", "0", "2", ""},
    };

    private static EngineMonastery rota(Object[] row) {
        String[] vigils = new String[row.length - 1];
        System.arraycopy(row, 1, vigils, 0, vigils.length);
        return able(vigils);
    }

    private static void mostVigils() {
        under("Promise 32");
        says("Returns the number of vigils that can be kept, found by changing rotas along chains.");
        for (Object[] row : ROTAS) {
            due(row[0], () -> rota(row).mostVigils());
        }

        under("Promise 33");
        says("Returns the same number as mostVigils(), found with a table of the sets of monks.");
        for (Object[] row : ROTAS) {
            due(row[0], () -> rota(row).mostVigilsByTable());
        }
    }

    private static void keeperOf() {
        under("Promise 34");
        says("Returns the monk who keeps a vigil in the best rota.");
        due(0, () -> able("0").keeperOf(0));
        due(5, () -> able("", "", "", "", "", "7").keeperOf(7));
        due(1, () -> able("07", "0").keeperOf(0));
        due(0, () -> able("07", "0").keeperOf(7));

        says("- `vigil`: the vigil, 0 to 7");
        for (int vigil = 0; vigil < 8; vigil++) {
            int asked = vigil;
            due(0, () -> able(String.valueOf(asked)).keeperOf(asked));
        }

        says("Throws `IndexOutOfBoundsException` if there is no such vigil");
        refusedBeside(0, 7, INDEX, BUSY, EngineMonastery::keeperOf);
        refusedBeside(0, 7, INDEX, FULL, EngineMonastery::keeperOf);
        refusedBeside(0, 7, INDEX, EMPTY, EngineMonastery::keeperOf);

        says("Throws `NoSuchElementException` if nobody keeps it");
        for (int vigil = 0; vigil < 8; vigil++) {
            int asked = vigil;
            refused(ELEMENT, EMPTY, x -> x.keeperOf(asked));
        }
        // In BUSY monks 0 and 1 can keep vigil 3, and monk 0 vigil 5 too.
        refused(ELEMENT, BUSY, x -> x.keeperOf(0));
        due(1, () -> BUSY.make().keeperOf(3));
        due(0, () -> BUSY.make().keeperOf(5));
        refused(ELEMENT, () -> able("67"), x -> x.keeperOf(7));
        due(0, () -> able("67").keeperOf(6));
        due(1, () -> able("67", "7").keeperOf(7));
        refused(ELEMENT, () -> able("0123456", "0123456"), x -> x.keeperOf(2));
    }
}
