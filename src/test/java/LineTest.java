/** Promises 50 to 55: the line, the statistics, and the invariants. */
public final class LineTest {
    public static void main(String[] args) {
        describeEngine();
        describeRota();
        lineAt();
        meanOil();
        vigilShare();
        isConsistent();
        Checks.end();
    }

    private static void line(EngineMonastery m, String due) {
        for (int index = 0; index < due.length(); index++) {
            int at = index;
            Checks.due("52: '" + due + "' at " + at, due.charAt(at), () -> m.lineAt(at));
        }
        Checks.index("52: '" + due + "' ends", () -> m.lineAt(due.length()));
    }

    private static void describeEngine() {
        EngineMonastery m = new EngineMonastery();
        Checks.index("50: no engine", () -> m.describeEngine(0));
        m.addEngine(4);
        Checks.due("50: new", 7, () -> m.describeEngine(0));
        line(m, "0:*0123");
        m.exchange(0, 1, 2);
        m.oil(0, 0, 2);
        m.oil(0, 2, 2);
        m.oil(0, 3, 1);
        m.run(0, 22);
        Checks.due("50: the example", 8, () -> m.describeEngine(0));
        line(m, "0:02*1!3");
        m.addEngine(8);
        m.run(1, 39);
        Checks.due("50: the longest", 18, () -> m.describeEngine(1));
        line(m, "1:0!1!2!3!4!5!6!*7");
        m.run(1, 1);
        Checks.due("50: all dry", 19, () -> m.describeEngine(1));
        line(m, "1:*0!1!2!3!4!5!6!7!");
        Checks.index("50: engine 2", () -> m.describeEngine(2));
        Checks.index("50: engine -1", () -> m.describeEngine(-1));
        line(m, "1:*0!1!2!3!4!5!6!7!");
        m.undo();
        line(m, "1:*0!1!2!3!4!5!6!7!");
        Checks.due("50: a shorter one", 8, () -> m.describeEngine(0));
        line(m, "0:02*1!3");
    }

    private static void describeRota() {
        EngineMonastery m = new EngineMonastery();
        Checks.due("51: nobody", 8, m::describeRota);
        line(m, "--------");
        for (int monk = 0; monk < 6; monk++) {
            m.addMonk();
            m.setAble(monk, 7 - monk, true);
        }
        Checks.due("51: backwards", 8, m::describeRota);
        line(m, "--543210");
        m.setAble(5, 1, true);
        Checks.due("51: monk 5 at vigil 1", 8, m::describeRota);
        line(m, "-5-43210");
        m.setAble(0, 2, true);
        m.setAble(5, 7, true);
        Checks.due("51: vigil 1 comes first", 8, m::describeRota);
        line(m, "-504321-");
    }

    private static void lineAt() {
        EngineMonastery m = new EngineMonastery();
        Checks.index("52: empty", () -> m.lineAt(0));
        Checks.index("52: -1", () -> m.lineAt(-1));
        m.describeRota();
        Checks.index("52: -1 again", () -> m.lineAt(-1));
        Checks.index("52: the greatest", () -> m.lineAt(Integer.MAX_VALUE));
        m.addMonk();
        m.setAble(0, 0, true);
        m.save();
        Checks.due("52: as it was written", '-', () -> m.lineAt(0));
        m.describeRota();
        m.restore();
        Checks.due("52: not restored", '0', () -> m.lineAt(0));
    }

    private static void meanOil() {
        EngineMonastery m = new EngineMonastery();
        Checks.arithmetic("53: no engines", m::meanOil);
        m.addEngine(3);
        Checks.due("53: five", 5.0, m::meanOil);
        m.run(0, 1);
        Checks.due("53: 14 / 3", 14.0 / 3.0, m::meanOil);
        m.addEngine(4);
        Checks.due("53: 34 / 7", 34.0 / 7.0, m::meanOil);
        m.run(0, 99);
        m.run(1, 99);
        Checks.due("53: none", 0.0, m::meanOil);
        m.oilDriest(1);
        Checks.due("53: 1 / 7", 1.0 / 7.0, m::meanOil);
    }

    private static void vigilShare() {
        EngineMonastery m = new EngineMonastery();
        Checks.due("54: none", 0f, m::vigilShare);
        for (int monk = 0; monk < 6; monk++) {
            float due = (monk + 1) / 8f;
            m.addMonk();
            m.setAble(monk, monk, true);
            Checks.due("54: " + due, due, m::vigilShare);
        }
        m.setAble(0, 6, true);
        Checks.due("54: one vigil for each monk", 0.75f, m::vigilShare);
    }

    private static void isConsistent() {
        EngineMonastery m = new EngineMonastery();
        Checks.due("55: new", true, m::isConsistent);
        for (int engine = 0; engine < 4; engine++) {
            m.addEngine(8 - engine);
            m.exchange(engine, 0, engine + 1);
            m.run(engine, 99);
            m.setRate(engine, 9 - engine);
            m.addRepair(engine, 9 - engine, engine + 3);
            m.addMonk();
            m.setAble(engine, engine + 1, true);
            m.setAble(engine, 2, true);
            Checks.due("55: with engines", true, m::isConsistent);
        }
        m.buyOil(99);
        m.oilDriest(61);
        m.pass(3);
        m.repair();
        Checks.due("55: at the end", true, m::isConsistent);
        m.undo();
        Checks.due("55: undone", true, m::isConsistent);
        Checks.due("55: which changes nothing", 6, m::undo);
    }
}
