/** Promises 30 to 34: monks, the vigils that they can keep, and the best rota. */
public final class VigilsTest {
    public static void main(String[] args) {
        addMonk();
        setAble();
        noVigils();
        chains();
        bestRota();
        keeperOf();
        Checks.end();
    }

    /** One text for each monk with the vigils that the monk can keep. */
    private static EngineMonastery able(String... vigils) {
        EngineMonastery monastery = new EngineMonastery();
        for (int monk = 0; monk < vigils.length; monk++) {
            monastery.addMonk();
            for (char vigil : vigils[monk].toCharArray()) {
                monastery.setAble(monk, vigil - '0', true);
            }
        }
        return monastery;
    }

    private static void rota(String due, String... vigils) {
        EngineMonastery m = able(vigils);
        int kept = 0;
        for (int vigil = 0; vigil < 8; vigil++) {
            int asked = vigil;
            if (due.charAt(vigil) == '-') {
                Checks.element("34: nobody keeps " + asked, () -> m.keeperOf(asked));
            } else {
                kept++;
                Checks.due("34: keeper of " + asked, due.charAt(asked) - '0', () -> m.keeperOf(asked));
            }
        }
        Checks.due("32: vigils kept", kept, m::mostVigils);
        Checks.due("33: vigils kept", kept, m::mostVigilsByTable);
    }

    private static void addMonk() {
        EngineMonastery m = new EngineMonastery();
        for (int monk = 0; monk < 6; monk++) {
            Checks.due("30: a monk", monk, m::addMonk);
        }
        Checks.state("30: a seventh one", m::addMonk);
        for (int vigil = 0; vigil < 8; vigil++) {
            int asked = vigil;
            Checks.due("30: who can keep no vigil", false, () -> m.setAble(5, asked, false));
        }
    }

    private static void setAble() {
        EngineMonastery m = able("", "");
        Checks.due("31: not before", false, () -> m.setAble(1, 7, true));
        Checks.due("31: again", true, () -> m.setAble(1, 7, true));
        Checks.due("31: taken back", true, () -> m.setAble(1, 7, false));
        Checks.due("31: taken back again", false, () -> m.setAble(1, 7, false));
        Checks.due("31: another monk", false, () -> m.setAble(0, 7, true));
        Checks.due("31: another vigil", false, () -> m.setAble(0, 0, true));
        Checks.index("31: monk 2", () -> m.setAble(2, 0, true));
        Checks.index("31: monk -1", () -> m.setAble(-1, 0, true));
        Checks.index("31: vigil 8", () -> m.setAble(0, 8, true));
        Checks.index("31: vigil -1", () -> m.setAble(0, -1, true));
        Checks.index("31: vigil 32", () -> m.setAble(0, 32, true));
        Checks.due("31: a failed call changes nothing", 1, m::mostVigils);
    }

    private static void noVigils() {
        rota("--------");
        rota("--------", "", "", "");
    }

    private static void chains() {
        // Each new vigil moves all monks before it.
        rota("12345-0-", "06", "01", "12", "23", "34", "4");
        rota("12345--0", "07", "01", "12", "23", "34", "4");
        rota("012345--", "05", "01", "12", "23", "34", "45");
        rota("01------", "0", "012", "0");
    }

    private static void bestRota() {
        rota("0-------", "01234567");
        rota("01------", "01234567", "01234567");
        rota("012345--", "01234567", "01234567", "01234567", "01234567", "01234567", "01234567");
        // More vigils come before a lower keeper.
        rota("10------", "01", "0");
        rota("1-0-----", "02", "0");
        // An early vigil with a keeper comes before a late one.
        rota("1------0", "7", "07");
        rota("1------0", "07", "0");
        rota("-0------", "12", "");
        rota("--0-1---", "2", "24");
        rota("-01-----", "12", "2");
        // The lower monk at an early vigil, even if a later vigil has a higher one.
        rota("021-----", "01", "2", "1");
        rota("-----012", "5", "6", "7");
        rota("210-----", "2", "1", "0");
    }

    private static void keeperOf() {
        EngineMonastery m = able("0", "1");
        Checks.index("34: vigil 8", () -> m.keeperOf(8));
        Checks.index("34: vigil -1", () -> m.keeperOf(-1));
        Checks.element("34: vigil 7", () -> m.keeperOf(7));
        Checks.due("34: monk 0", 0, () -> m.keeperOf(0));
        m.setAble(0, 0, false);
        Checks.element("34: nobody any more", () -> m.keeperOf(0));
        Checks.due("34: monk 1", 1, () -> m.keeperOf(1));
    }
}
