/** Promises 56 to 58: undo, the snapshot, and what counts as a change. */
public final class UndoTest {
    public static void main(String[] args) {
        everyChange();
        latestEight();
        changesWithoutDifference();
        failedCallsAreNoChanges();
        questionsAreNoChanges();
        snapshot();
        everythingIsSaved();
        Checks.end();
    }

    private static void write(EngineMonastery m, String text) {
        for (char character : text.toCharArray()) {
            m.append(character);
        }
    }

    private interface Change {
        void make(EngineMonastery m);
    }

    private static EngineMonastery busy() {
        EngineMonastery m = new EngineMonastery();
        write(m, "engine 4;engine 3;monk;monk;able 01;rate 0=3;buy 50");
        m.execute();
        write(m, "swap 0 12;run 0*23;mend 0 32;mend 1 21;pass 2");
        m.execute();
        return m;
    }

    /** All that can be asked of the state, in one text. */
    private static String stateOf(EngineMonastery m) {
        StringBuilder state = new StringBuilder();
        for (int engine = 0; engine < m.engineCount(); engine++) {
            int length = m.describeEngine(engine);
            for (int index = 0; index < length; index++) {
                state.append(m.lineAt(index));
            }
            for (int cylinder = 0; cylinder < m.cylinderCount(engine); cylinder++) {
                state.append(' ').append(m.oilOf(engine, cylinder)).append('/').append(m.wearOf(engine, cylinder));
            }
            for (int place = 0; place < m.knockCount(engine); place++) {
                state.append(place == 0 ? " k" : "").append(m.knockAt(engine, place));
            }
            state.append(';');
        }
        m.describeRota();
        for (int index = 0; index < 8; index++) {
            state.append(m.lineAt(index));
        }
        state.append(" oil ").append(m.allOil()).append(' ').append(m.allOilByAccounts());
        state.append(" repairs ").append(m.repairCount()).append(' ').append(m.leastPenance());
        state.append(" hour ").append(m.hour()).append(" penance ").append(m.penanceDone()).append(" knocks");
        for (int hour = 0; hour <= m.hour(); hour++) {
            state.append(' ').append(Checks.answerOf(knocksIn(m, hour)));
        }
        return state.toString();
    }

    private static Checks.Call knocksIn(EngineMonastery m, int hour) {
        return () -> m.knocksIn(hour);
    }

    private static void undone(String what, Change change) {
        EngineMonastery m = busy();
        String before = stateOf(m);
        change.make(m);
        String after = stateOf(m);
        Checks.due("56: " + what + " changes something", false, () -> before.equals(after));
        Checks.due("56: " + what + " is a change", 2, m::undo);
        Checks.due("56: " + what + " is undone", before, () -> stateOf(m));
        Checks.due("56: the one before it", 1, m::undo);
        change.make(m);
        Checks.due("56: " + what + " once more", 1, m::undo);
        Checks.due("56: the first change", 0, m::undo);
        Checks.due("56: nothing is left", "-------- oil 20 20 repairs 0 0 hour 0 penance 0 knocks "
                + "throws java.util.NoSuchElementException", () -> stateOf(m));
    }

    private static void everyChange() {
        undone("addEngine", m -> m.addEngine(3));
        undone("exchange", m -> m.exchange(0, 0, 3));
        undone("run", m -> m.run(1, 2));
        undone("oil", m -> m.oil(1, 1, 1));
        undone("oilDriest", m -> m.oilDriest(2));
        undone("buyOil", m -> m.buyOil(1));
        undone("setAble", m -> m.setAble(1, 3, true));
        undone("addRepair", m -> m.addRepair(0, 5, 5));
        undone("pass", m -> m.pass(1));
        undone("execute", m -> {
            write(m, "monk;able 24;run 0*9;fill 3");
            m.execute();
        });
        EngineMonastery m = busy();
        String before = stateOf(m);
        m.removeRepair(0);
        Checks.due("56: removeRepair", 2, m::undo);
        m.repair();
        Checks.due("56: repair", 2, m::undo);
        Checks.due("56: both are undone", before, () -> stateOf(m));
        m.setRate(0, 9);
        Checks.due("56: setRate", 2, m::undo);
        Checks.due("56: the rate is undone", 3, () -> m.setRate(0, 3));
        m.addMonk();
        Checks.due("56: addMonk", 3, m::undo);
        Checks.index("56: the monk is undone", () -> m.setAble(2, 0, true));
        m.addMonk();
        m.setAble(2, 0, true);
        m.undo();
        m.undo();
        m.addMonk();
        Checks.due("56: a new monk can keep no vigil", false, () -> m.setAble(2, 0, true));
        m.addEngine(8);
        m.run(2, 50);
        m.setRate(2, 5);
        m.undo();
        m.undo();
        m.undo();
        m.addEngine(5);
        Checks.due("56: a new engine has five units", 5, () -> m.oilOf(2, 4));
        Checks.due("56: and no wear", 0, () -> m.wearOf(2, 0));
        Checks.due("56: and no knocks", 0, () -> m.knockCount(2));
        Checks.due("56: and no rate", 0, () -> m.setRate(2, 1));
    }

    private static void latestEight() {
        EngineMonastery m = new EngineMonastery();
        Checks.state("56: no change", m::undo);
        for (int change = 0; change < 11; change++) {
            m.buyOil(1);
        }
        for (int left = 7; left >= 0; left--) {
            int due = left;
            Checks.due("56: can still be undone", due, m::undo);
            Checks.due("56: oil", 23 + due, m::allOil);
        }
        Checks.state("56: only the latest eight", m::undo);
        m.buyOil(5);
        m.buyOil(6);
        Checks.due("56: the latest one first", 1, m::undo);
        Checks.due("56: five are left", 28, m::allOil);
        m.buyOil(1);
        Checks.due("56: a change after an undo", 1, m::undo);
        Checks.due("56: and the one before", 0, m::undo);
        Checks.state("56: no more", m::undo);
        Checks.due("56: three can't be undone", 23, m::allOil);
        for (int change = 0; change < 7; change++) {
            m.buyOil(1);
        }
        Checks.due("56: seven changes", 6, m::undo);
        m.buyOil(1);
        m.buyOil(1);
        Checks.due("56: eight changes", 7, m::undo);
        m.buyOil(1);
        m.buyOil(1);
        Checks.due("56: nine changes", 7, m::undo);
    }

    private static void changesWithoutDifference() {
        EngineMonastery m = new EngineMonastery();
        m.addEngine(3);
        m.addMonk();
        m.exchange(0, 1, 1);
        m.setRate(0, 0);
        m.setAble(0, 0, false);
        write(m, "swap 0 00");
        m.execute();
        Checks.due("56: changes even if nothing differs", 5, m::undo);
    }

    private static void failedCallsAreNoChanges() {
        EngineMonastery m = new EngineMonastery();
        m.addEngine(3);
        Checks.argument("56: addEngine", () -> m.addEngine(9));
        Checks.index("56: exchange", () -> m.exchange(0, 0, 3));
        Checks.argument("56: setRate", () -> m.setRate(0, 10));
        Checks.argument("56: run", () -> m.run(0, 100));
        Checks.state("56: oil", () -> m.oil(0, 0, 21));
        Checks.state("56: oilDriest", () -> m.oilDriest(21));
        Checks.argument("56: buyOil", () -> m.buyOil(100));
        Checks.index("56: setAble", () -> m.setAble(0, 0, true));
        Checks.argument("56: addRepair", () -> m.addRepair(0, 10, 1));
        Checks.index("56: removeRepair", () -> m.removeRepair(0));
        Checks.state("56: repair", m::repair);
        Checks.argument("56: pass", () -> m.pass(49));
        Checks.argument("56: execute", m::execute);
        Checks.due("56: one change only", 0, m::undo);
        for (int change = 0; change < 8; change++) {
            m.buyOil(1);
        }
        write(m, "buy 9;repair");
        Checks.state("56: a command fails", m::execute);
        Checks.due("56: all eight are still kept", 7, m::undo);
        for (int change = 0; change < 7; change++) {
            m.undo();
        }
        Checks.due("56: the oldest one too", 20, m::allOil);
    }

    private static void questionsAreNoChanges() {
        EngineMonastery m = busy();
        String before = stateOf(m);
        m.leastOilAfter(99);
        m.leastOilAfterByGiving(99);
        m.evenOrders(0, 1);
        m.evenOrdersByTrying(0, 1);
        m.turnByRepeating(0);
        m.dueAfterByStrokes(0, 77);
        m.mostVigils();
        m.mostVigilsByTable();
        m.leastPenanceByTable();
        m.isConsistent();
        m.save();
        Checks.due("56: nothing differs", before, () -> stateOf(m));
        Checks.due("56: two changes", 1, m::undo);
    }

    private static void snapshot() {
        EngineMonastery m = new EngineMonastery();
        Checks.state("58: no snapshot", m::restore);
        Checks.due("57: no engines", 0, m::save);
        m.addEngine(3);
        Checks.due("57: one engine", 1, m::save);
        m.addEngine(4);
        m.buyOil(9);
        Checks.due("58: one engine", 1, m::restore);
        Checks.due("58: the oil", 35, m::allOil);
        Checks.due("58: by accounts", 35, m::allOilByAccounts);
        Checks.state("58: no change can be undone", m::undo);
        m.run(0, 9);
        Checks.due("58: but later ones", 0, m::undo);
        m.run(0, 9);
        Checks.due("58: the snapshot is kept", 1, m::restore);
        Checks.due("58: as it was saved", 35, m::allOil);
        Checks.state("58: no change again", m::undo);
        m.addEngine(5);
        m.addEngine(6);
        Checks.due("57: three engines", 3, m::save);
        Checks.due("57: changes can still be undone", 1, m::undo);
        Checks.due("58: the later snapshot, not undone", 3, m::restore);
        Checks.due("58: its last engine", 6, () -> m.cylinderCount(2));
    }

    /** Saved, and then changed in many ways. */
    private static EngineMonastery savedAndChanged() {
        EngineMonastery m = busy();
        m.save();
        write(m, "engine 8;run 2*44;run 1*30;oil 0.0+3;fill 8;buy 4;monk");
        m.execute();
        write(m, "able 22;able 03;mend 2 19;repair;swap 1 02;rate 0=9;pass 9");
        m.execute();
        return m;
    }

    private static void everythingIsSaved() {
        String saved = stateOf(busy());
        Checks.due("58: much is different", false, () -> saved.equals(stateOf(savedAndChanged())));
        EngineMonastery m = savedAndChanged();
        m.restore();
        Checks.due("58: all is as it was", saved, () -> stateOf(m));
        Checks.due("58: the rate too", 3, () -> m.setRate(0, 3));
        Checks.index("58: the monks too", () -> m.setAble(2, 0, true));
    }
}
