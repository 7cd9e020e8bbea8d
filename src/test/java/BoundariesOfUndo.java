import java.lang.reflect.InvocationTargetException;
import java.lang.reflect.Method;
import java.lang.reflect.Modifier;
import java.util.ArrayList;
import java.util.LinkedHashMap;
import java.util.List;
import java.util.Map;

/** The boundary cases that 'Terms' names for changes and exceptions, and those of promises 56 to 58. */
final class BoundariesOfUndo extends Boundaries {
    /** All changes, as calls that succeed on BUSY and on RESTORED. */
    private static final Map<String, Act> CHANGES = new LinkedHashMap<>();

    private BoundariesOfUndo() {
    }

    static void run() {
        CHANGES.put("addEngine", m -> m.addEngine(8));
        CHANGES.put("exchange", m -> m.exchange(0, 0, 3));
        CHANGES.put("setRate", m -> m.setRate(0, 9));
        CHANGES.put("run", m -> m.run(0, 99));
        CHANGES.put("oil", m -> m.oil(1, 2, 9));
        CHANGES.put("oilDriest", m -> m.oilDriest(9));
        CHANGES.put("buyOil", m -> m.buyOil(99));
        CHANGES.put("addMonk", EngineMonastery::addMonk);
        CHANGES.put("setAble", m -> m.setAble(1, 7, true));
        CHANGES.put("addRepair", m -> m.addRepair(1, 9, 9));
        CHANGES.put("removeRepair", m -> m.removeRepair(0));
        CHANGES.put("repair", EngineMonastery::repair);
        CHANGES.put("pass", m -> m.pass(48));
        CHANGES.put("execute", m -> executes(m, "nk;able 27;engine 8;run 2*60;mend 2 55;repair;fill 3"));
        under("Terms");
        changes();
        latestEight();
        whatIsKept();
        exceptionsChangeNothing();
        firstListed();
        undo();
        save();
        restore();
    }

    /** The exception goes on, and "mo" is in the text again, as in the scene. */
    private static Object executes(EngineMonastery m, String text) {
        write(m, text);
        Object answer = m.execute();
        write(m, "mo");
        return answer;
    }

    private static void changes() {
        says("A change is a successful call of addEngine, exchange, setRate, run, oil, oilDriest, buyOil, addMonk, "
                + "setAble, addRepair, removeRepair, repair, pass or execute.");
        due(14, CHANGES::size);
        for (Act change : CHANGES.values()) {
            EngineMonastery m = RESTORED.make();
            due(STATE, m::undo);
            change.on(m);
            due(0, m::undo);
            due(STATE, m::undo);
            due(true, () -> Watch.changesNothing(RESTORED, x -> changedAndUndone(x, change)));
            due(false, () -> Watch.changesNothing(RESTORED, change));
        }
        for (Act question : questions()) {
            EngineMonastery m = RESTORED.make();
            question.on(m);
            due(STATE, m::undo);
        }
        for (Scene scene : new Scene[] {BUSY, FULL, DRY}) {
            for (Act question : questions()) {
                due(true, () -> Watch.changesNothing(scene, question));
            }
        }
        EngineMonastery others = RESTORED.make();
        others.append('n');
        others.describeEngine(0);
        others.describeRota();
        others.save();
        due(STATE, others::undo);

        says("A successful call is a change even if nothing differs afterwards.");
        Act[] same = {m -> m.exchange(0, 1, 1), m -> m.setRate(0, 0), m -> m.setAble(0, 3, true),
            m -> m.setAble(0, 2, false), m -> executed(m, "swap 0 00"), m -> executed(m, "rate 0=0"),
            m -> executed(m, "able 03;able 03")};
        for (Act call : same) {
            Scene scene = BoundariesOfUndo::withoutChanges;
            EngineMonastery m = scene.make();
            due(STATE, m::undo);
            call.on(m);
            due(0, m::undo);
            due(STATE, m::undo);
            due(true, () -> Watch.changesNothing(scene, x -> changedAndUndone(x, call)));
        }

        says("A call of execute that carries out several commands is one change.");
        EngineMonastery m = new EngineMonastery();
        due(10, () -> executed(m, "buy 1" + ";buy 1".repeat(9)));
        due(11, () -> executed(m, "monk;".repeat(6) + "buy 1" + ";buy 1".repeat(4)));
        due(1, m::undo);
        due(30, m::allOil);
        due(0, m::addMonk);
        due(1, m::undo);
        due(0, m::undo);
        due(20, m::allOil);
        due(STATE, m::undo);
    }

    private static EngineMonastery withoutChanges() {
        EngineMonastery m = with(3);
        m.addMonk();
        m.setAble(0, 3, true);
        m.save();
        m.restore();
        return m;
    }

    private static Object changedAndUndone(EngineMonastery m, Act change) {
        change.on(m);
        return m.undo();
    }

    /** Calls that answer something and leave all as it was. */
    private static List<Act> questions() {
        List<Act> acts = new ArrayList<>();
        acts.add(m -> m.dueAfterByStrokes(0, 9999));
        acts.add(m -> m.dueAfter(0, 9999));
        acts.add(m -> m.turnOf(0) + m.turnByRepeating(0) + m.evenness(0));
        acts.add(m -> m.evenOrders(0, 1) + m.evenOrdersByTrying(0, 1));
        acts.add(m -> m.leastOilAfter(999) + m.leastOilAfterByGiving(999));
        acts.add(m -> m.knockCount(0) > 0 ? m.knockPeriod(0) + m.knockPeriodByTrying(0) : 0);
        acts.add(m -> m.mostVigils() + m.mostVigilsByTable());
        acts.add(m -> m.leastPenance() + m.leastPenanceByTable());
        acts.add(m -> m.meanOil() + m.vigilShare());
        acts.add(EngineMonastery::isConsistent);
        return acts;
    }

    private static void latestEight() {
        says("The latest 8 changes can be undone, the latest one first.");
        for (int changes = 0; changes <= 25; changes++) {
            EngineMonastery m = new EngineMonastery();
            for (int change = 0; change < changes; change++) {
                m.pass(1);
            }
            int kept = Math.min(changes, 8);
            for (int undone = 1; undone <= kept; undone++) {
                int due = kept - undone;
                int hour = changes - undone;
                due(due, m::undo);
                due(hour, m::hour);
            }
            due(STATE, m::undo);
            int oldest = changes - kept;
            due(oldest, m::hour);
            // After that, new changes can be undone again, and no older ones.
            for (int change = 0; change < 9; change++) {
                m.pass(1);
            }
            for (int due = 7; due >= 0; due--) {
                int left = due;
                due(left, m::undo);
            }
            due(STATE, m::undo);
            due(oldest + 1, m::hour);
        }
    }

    private static void whatIsKept() {
        says("The command text, the error position, the failed command, and the line are neither undone nor saved.");
        EngineMonastery m = new EngineMonastery();
        m.buyOil(1);
        m.addEngine(3);
        m.save();
        m.buyOil(2);
        m.describeEngine(0);
        executed(m, "x");
        executed(m, "repair");
        write(m, "buy ");
        m.undo();
        due(36, m::allOil);
        due("0:*012", () -> lineOf(m));
        due(0, m::errorPosition);
        due(0, m::failedCommand);
        due(5, () -> m.append('7'));
        executed(m, ";y");
        executed(m, "buy 1;repair");
        m.describeRota();
        write(m, "buy");
        m.undo();
        due("--------", () -> lineOf(m));
        due(6, m::errorPosition);
        due(1, m::failedCommand);
        m.restore();
        due(36, m::allOil);
        due("--------", () -> lineOf(m));
        due(6, m::errorPosition);
        due(1, m::failedCommand);
        due(4, () -> m.append(' '));
        due(1, () -> executed(m, "3"));
        due(39, m::allOil);

        says("Everything else is.");
        for (Act first : CHANGES.values()) {
            due(true, () -> Watch.whole(BUSY, x -> savedAndRestored(x, y -> 0)).equals(
                    Watch.whole(BUSY, x -> savedAndRestored(x, first))));
            for (Act second : CHANGES.values()) {
                due(true, () -> Watch.changesNothing(RESTORED, x -> twoChangesUndone(x, first, second)));
            }
        }
    }

    private static Object savedAndRestored(EngineMonastery m, Act change) {
        m.save();
        change.on(m);
        return m.restore();
    }

    private static Object twoChangesUndone(EngineMonastery m, Act first, Act second) {
        first.on(m);
        second.on(m);
        m.undo();
        return m.undo();
    }

    private static void exceptionsChangeNothing() {
        says("A method that throws an exception changes nothing, except that execute clears the command text and sets "
                + "the error position or the failed command.");
        Scene[] scenes = {EMPTY, BUSY, FULL, DRY, RESTORED};
        int[] edges = {-1, 0, 2, 8, 10, 100};
        int refused = 0;
        for (Method method : EngineMonastery.class.getDeclaredMethods()) {
            if (Modifier.isPublic(method.getModifiers()) && !method.getName().equals("execute")) {
                for (Scene scene : scenes) {
                    refused += refusals(method, scene, edges);
                }
            }
        }
        int all = refused;
        due(true, () -> all > 1000);
        EngineMonastery m = BUSY.make();
        due(ARGUMENT, m::execute);
        due(1, () -> m.append('x'));
        due(ARGUMENT, m::execute);
        due(0, m::errorPosition);
        due(1, m::failedCommand);
        due(STATE, () -> executed(m, "engine 9"));
        due(0, m::errorPosition);
        due(0, m::failedCommand);
        due(1, () -> m.append('x'));
    }

    /** Calls the method with all edges and counts the calls that throw. */
    private static int refusals(Method method, Scene scene, int[] edges) {
        Class<?>[] types = method.getParameterTypes();
        int calls = 1;
        for (int place = 0; place < types.length; place++) {
            calls *= edges.length;
        }
        int refused = 0;
        for (int call = 0; call < calls; call++) {
            Object[] parameters = new Object[types.length];
            int rest = call;
            for (int place = 0; place < types.length; place++) {
                int edge = edges[rest % edges.length];
                rest /= edges.length;
                parameters[place] = types[place] == char.class ? (Object) (char) edge
                        : types[place] == boolean.class ? (Object) (edge > 0) : (Object) edge;
            }
            Act act = m -> invoked(method, m, parameters);
            if (String.valueOf(Checks.answerOf(() -> act.on(scene.make()))).startsWith("throws")) {
                refused++;
                due(true, () -> Watch.changesNothing(scene, act));
            }
        }
        return refused;
    }

    /** Throws what the method throws. */
    private static Object invoked(Method method, EngineMonastery m, Object[] parameters) {
        try {
            return method.invoke(m, parameters);
        } catch (InvocationTargetException thrown) {
            throw (RuntimeException) thrown.getCause();
        } catch (IllegalAccessException wrong) {
            throw new IllegalStateException(wrong);
        }
    }

    private static void firstListed() {
        says("If several exceptions apply, the exception listed first is thrown.");
        refused(ARGUMENT, FULL, m -> m.addEngine(2));
        refused(ARGUMENT, FULL, m -> m.addEngine(9));
        refused(INDEX, BUSY, m -> m.setRate(2, 10));
        refused(INDEX, BUSY, m -> m.setRate(-1, -1));
        refused(INDEX, BUSY, m -> m.dueAfter(2, 10000));
        refused(INDEX, BUSY, m -> m.dueAfter(-1, -1));
        refused(INDEX, BUSY, m -> m.dueAfterByStrokes(2, 10000));
        refused(INDEX, BUSY, m -> m.dueAfterByStrokes(-1, -1));
        refused(INDEX, BUSY, m -> m.evenOrders(2, 0));
        refused(INDEX, BUSY, m -> m.evenOrders(-1, 5));
        refused(INDEX, BUSY, m -> m.evenOrdersByTrying(2, 0));
        refused(INDEX, BUSY, m -> m.evenOrdersByTrying(-1, 5));
        refused(INDEX, BUSY, m -> m.run(2, 0));
        refused(INDEX, BUSY, m -> m.run(-1, 100));
        refused(INDEX, BUSY, m -> m.oil(2, 0, 0));
        refused(INDEX, BUSY, m -> m.oil(0, 4, 100));
        refused(INDEX, BUSY, m -> m.oil(2, 0, 99));
        refused(INDEX, BUSY, m -> m.oil(1, 3, 44));
        refused(INDEX, DRY, m -> m.oil(0, 3, 1));
        refused(INDEX, DRY, m -> m.oil(0, -1, 0));
        refused(ARGUMENT, DRY, m -> m.oil(0, 0, 100));
        refused(ARGUMENT, DRY, m -> m.oil(0, 0, 0));
        refused(ARGUMENT, DRY, m -> m.oilDriest(100));
        refused(ARGUMENT, EMPTY, m -> m.oilDriest(0));
        refused(ARGUMENT, EMPTY, m -> m.oilDriest(100));
        refused(ARGUMENT, EMPTY, m -> m.leastOilAfter(-1));
        refused(ARGUMENT, EMPTY, m -> m.leastOilAfter(1000));
        refused(ARGUMENT, EMPTY, m -> m.leastOilAfterByGiving(-1));
        refused(ARGUMENT, EMPTY, m -> m.leastOilAfterByGiving(1000));
        refused(ARGUMENT, FULL, m -> m.buyOil(100));
        refused(ARGUMENT, FULL, m -> m.buyOil(0));
        refused(INDEX, BUSY, m -> m.knockAt(2, 0));
        refused(INDEX, BUSY, m -> m.knockAt(-1, -1));
        refused(INDEX, EMPTY, m -> m.knockAt(0, 0));
        refused(INDEX, DRY, m -> m.knockPeriod(1));
        refused(INDEX, DRY, m -> m.knockPeriodByTrying(1));
        refused(INDEX, EMPTY, m -> m.keeperOf(8));
        refused(INDEX, EMPTY, m -> m.keeperOf(-1));
        refused(INDEX, BUSY, m -> m.addRepair(2, 0, 1));
        refused(INDEX, BUSY, m -> m.addRepair(-1, 1, 10));
        refused(INDEX, FULL, m -> m.addRepair(4, 1, 1));
        refused(INDEX, FULL, m -> m.addRepair(4, 10, 0));
        refused(ARGUMENT, FULL, m -> m.addRepair(0, 0, 1));
        refused(ARGUMENT, FULL, m -> m.addRepair(3, 1, 10));
        refused(ARGUMENT, FULL, m -> m.append((char) 31));
        refused(ARGUMENT, FULL, m -> m.append((char) 127));
        // The first command would fail, but the text is no command text at all.
        EngineMonastery both = new EngineMonastery();
        due(ARGUMENT, () -> executed(both, "repair;x"));
        due(7, both::errorPosition);
        due(ELEMENT, both::failedCommand);
        // A command fails, whichever of its exceptions applies.
        due(STATE, () -> executed(both, "oil 9.9+0"));
        due(0, both::failedCommand);
    }

    private static void undo() {
        under("Promise 56");
        says("Undoes the latest change that has not been undone.");
        EngineMonastery m = new EngineMonastery();
        m.pass(1);
        m.pass(2);
        m.pass(4);
        m.undo();
        due(3, m::hour);
        m.undo();
        due(1, m::hour);
        m.pass(8);
        m.undo();
        due(1, m::hour);
        m.undo();
        due(0, m::hour);

        says("Returns the number of changes that can still be undone.");
        for (int changes = 1; changes <= 10; changes++) {
            EngineMonastery one = new EngineMonastery();
            for (int change = 0; change < changes; change++) {
                one.buyOil(1);
            }
            int left = Math.min(changes, 8) - 1;
            due(left, one::undo);
            one.buyOil(1);
            due(left, one::undo);
            one.buyOil(1);
            one.buyOil(1);
            due(Math.min(left + 1, 7), one::undo);
        }

        says("Throws `IllegalStateException` if there is no change to undo");
        refused(STATE, EMPTY, EngineMonastery::undo);
        refused(STATE, RESTORED, EngineMonastery::undo);
        Scene undone = () -> {
            EngineMonastery x = BUSY.make();
            for (int change = 0; change < 8; change++) {
                x.undo();
            }
            return x;
        };
        refused(STATE, undone, EngineMonastery::undo);
    }

    private static void save() {
        under("Promise 57");
        says("Saves everything that changes can change as the snapshot, replacing an earlier snapshot.");
        EngineMonastery m = new EngineMonastery();
        m.save();
        m.pass(1);
        m.save();
        m.pass(2);
        m.save();
        m.pass(4);
        m.restore();
        due(3, m::hour);
        // A save is no change, and leaves those that can be undone.
        EngineMonastery kept = with(3, 3);
        kept.save();
        due(1, kept::undo);
        due(0, kept::undo);
        due(2, kept::restore);
        for (Act change : CHANGES.values()) {
            due(true, () -> Watch.whole(BUSY, x -> savedAfter(x, change)).equals(
                    Watch.whole(BUSY, x -> changedAndRestored(x, change))));
        }

        says("Returns the number of engines.");
        due(0, () -> new EngineMonastery().save());
        due(1, () -> with(3).save());
        due(4, () -> with(3, 3, 3, 3).save());
        due(2, () -> BUSY.make().save());
    }

    /** Changed, saved, and what is there is the snapshot. */
    private static Object savedAfter(EngineMonastery m, Act change) {
        change.on(m);
        m.save();
        return m.restore();
    }

    /** Changed, saved, changed in all ways but by execute, whose text would not be restored, and restored. */
    private static Object changedAndRestored(EngineMonastery m, Act change) {
        change.on(m);
        m.save();
        for (String other : CHANGES.keySet()) {
            if (!other.equals("execute")) {
                CHANGES.get(other).on(m);
            }
        }
        return m.restore();
    }

    private static void restore() {
        under("Promise 58");
        says("Restores the snapshot, which is kept.");
        EngineMonastery m = with(3);
        m.save();
        for (int times = 0; times < 3; times++) {
            m.addEngine(4);
            m.run(0, 20);
            m.pass(5);
            due(1, m::restore);
            due(35, m::allOil);
            due(35, m::allOilByAccounts);
            due(0, m::hour);
            due("0:*012", () -> engineOf(m, 0));
        }
        due(1, m::restore);

        says("After the call no change can be undone.");
        for (int changes = 0; changes <= 9; changes++) {
            EngineMonastery one = new EngineMonastery();
            one.save();
            for (int change = 0; change < changes; change++) {
                one.buyOil(1);
            }
            due(0, one::restore);
            due(STATE, one::undo);
            one.buyOil(1);
            due(0, one::undo);
            due(STATE, one::undo);
            due(20, one::allOil);
        }

        says("Returns the number of engines.");
        EngineMonastery counts = new EngineMonastery();
        counts.save();
        counts.addEngine(3);
        due(0, counts::restore);
        counts.addEngine(3);
        counts.addEngine(3);
        counts.addEngine(3);
        counts.addEngine(3);
        counts.save();
        counts.undo();
        due(4, counts::restore);

        says("Throws `IllegalStateException` if there is no snapshot");
        refused(STATE, EMPTY, EngineMonastery::restore);
        refused(STATE, FULL, EngineMonastery::restore);
        refused(STATE, DRY, EngineMonastery::restore);
        EngineMonastery first = with(3);
        due(STATE, first::restore);
        first.save();
        due(1, first::restore);
    }
}
