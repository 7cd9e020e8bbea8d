import java.util.HashMap;
import java.util.Map;

/** Writes down all that an object answers, so that two objects of the same making can be compared. */
final class Watch {
    private static final Map<Boundaries.Scene, String> UNTOUCHED = new HashMap<>();

    private Watch() {
    }

    /** Whether an object on which the call was made is as one on which it was not made. */
    static boolean changesNothing(Boundaries.Scene scene, Boundaries.Act act) {
        return UNTOUCHED.computeIfAbsent(scene, same -> whole(same, m -> 0)).equals(whole(scene, act));
    }

    /** What is there now, what undo brings back, and what the snapshot holds: each asked on a new object. */
    static String whole(Boundaries.Scene scene, Boundaries.Act act) {
        StringBuilder all = new StringBuilder();
        for (int undone = 0; undone <= 9; undone++) {
            EngineMonastery m = after(scene, act);
            for (int time = 0; time < undone; time++) {
                all.append(" undo ").append(Checks.answerOf(m::undo));
            }
            show(m, all);
        }
        show(restored(scene, act, all), all);
        useUp(after(scene, act), all);
        useUp(restored(scene, act, all), all);
        return all.toString();
    }

    private static EngineMonastery after(Boundaries.Scene scene, Boundaries.Act act) {
        EngineMonastery m = scene.make();
        Checks.answerOf(() -> act.on(m));
        return m;
    }

    private static EngineMonastery restored(Boundaries.Scene scene, Boundaries.Act act, StringBuilder all) {
        EngineMonastery m = after(scene, act);
        all.append(" restore ").append(Checks.answerOf(m::restore));
        return m;
    }

    /** Only questions, so that nothing is changed by them. */
    static void show(EngineMonastery m, StringBuilder all) {
        all.append("\nline ").append(Boundaries.lineOf(m));
        all.append(" error ").append(Checks.answerOf(m::errorPosition));
        all.append(" failed ").append(Checks.answerOf(m::failedCommand));
        for (int engine = 0; engine < m.engineCount(); engine++) {
            showEngine(m, engine, all);
        }
        for (int vigil = 0; vigil < 8; vigil++) {
            int asked = vigil;
            all.append(" keeper ").append(Checks.answerOf(() -> m.keeperOf(asked)));
        }
        all.append(" repairs ").append(m.repairCount()).append(" least ").append(m.leastPenance());
        all.append(" done ").append(m.penanceDone()).append(" hour ").append(m.hour());
        all.append(" oil ").append(m.allOil()).append(" accounts ").append(m.allOilByAccounts());
        int from = 0;
        for (int kept = 0; kept < 13; kept++) {
            int first = from;
            Object hour = Checks.answerOf(() -> m.hourOfKnocks(first));
            all.append(" knocks ").append(hour);
            if (!(hour instanceof Integer)) {
                break;
            }
            all.append(':').append(m.knocksIn((Integer) hour));
            from = (Integer) hour + 1;
        }
    }

    private static void showEngine(EngineMonastery m, int engine, StringBuilder all) {
        all.append(" engine ").append(engine).append(" due ").append(m.dueAfter(engine, 0));
        for (int cylinder = 0; cylinder < m.cylinderCount(engine); cylinder++) {
            all.append(' ').append(m.orderAt(engine, cylinder)).append('/').append(m.oilOf(engine, cylinder));
            all.append('/').append(m.wearOf(engine, cylinder));
        }
        all.append(" knocks ");
        int knocks = m.knockCount(engine);
        for (int place = 0; place < knocks; place++) {
            all.append(m.knockAt(engine, place));
        }
    }

    /** What only changes tell: the command text, the rates, who can keep what, and the repairs one by one. */
    private static void useUp(EngineMonastery m, StringBuilder all) {
        all.append("\ntext ").append(Checks.answerOf(() -> m.append('n'))).append(Checks.answerOf(() -> m.append('k')));
        all.append(Checks.answerOf(m::execute)).append(Checks.answerOf(m::errorPosition)).append(" rates");
        for (int engine = 0; engine < m.engineCount(); engine++) {
            all.append(' ').append(m.setRate(engine, 0));
        }
        all.append(" able");
        for (int spot = 0; spot < 48; spot++) {
            int monk = spot / 8;
            int vigil = spot % 8;
            all.append(' ').append(Checks.answerOf(() -> m.setAble(monk, vigil, false)));
        }
        all.append(" repairs");
        for (int count = m.repairCount(); count > 0; count--) {
            all.append(' ').append(m.repair()).append('@').append(m.hour()).append('/').append(m.penanceDone());
        }
    }
}
