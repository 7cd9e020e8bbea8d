/** Promises 35 to 45: repairs with penances, hours, and the knocks in them. */
public final class RepairsTest {
    public static void main(String[] args) {
        addRepair();
        removeRepair();
        leastPenance();
        repair();
        repairOrder();
        pass();
        knocksIn();
        hourOfKnocks();
        Checks.end();
    }

    private static EngineMonastery with(int... cylinders) {
        EngineMonastery monastery = new EngineMonastery();
        for (int number : cylinders) {
            monastery.addEngine(number);
        }
        return monastery;
    }

    private static void addRepair() {
        EngineMonastery m = with(3, 3);
        Checks.due("35: the first", 0, () -> m.addRepair(1, 1, 9));
        Checks.due("35: the second", 1, () -> m.addRepair(0, 9, 1));
        Checks.due("37: two", 2, m::repairCount);
        for (int wrong : new int[] {0, 10, -1, Integer.MAX_VALUE}) {
            Checks.argument("35: hours " + wrong, () -> m.addRepair(0, wrong, 1));
            Checks.argument("35: penance " + wrong, () -> m.addRepair(0, 1, wrong));
            Checks.index("35: the engine comes first", () -> m.addRepair(2, wrong, 1));
        }
        Checks.index("35: engine -1", () -> m.addRepair(-1, 1, 1));
        Checks.due("37: still two", 2, m::repairCount);
        for (int index = 2; index < 8; index++) {
            Checks.due("35: one more", index, () -> m.addRepair(0, 1, 1));
        }
        Checks.state("35: a ninth one", () -> m.addRepair(0, 1, 1));
        Checks.argument("35: the argument before the state", () -> m.addRepair(0, 0, 1));
        Checks.index("35: the index before all", () -> m.addRepair(4, 0, 1));
        Checks.due("37: eight", 8, m::repairCount);
    }

    private static void removeRepair() {
        EngineMonastery m = with(3, 3, 3);
        Checks.index("36: none is asked for", () -> m.removeRepair(0));
        m.addRepair(0, 5, 1);
        m.addRepair(1, 1, 1);
        m.addRepair(2, 3, 1);
        Checks.index("36: index 3", () -> m.removeRepair(3));
        Checks.index("36: index -1", () -> m.removeRepair(-1));
        Checks.due("36: the middle one", 2, () -> m.removeRepair(1));
        Checks.due("37: two are left", 2, m::repairCount);
        Checks.due("36: 3 and 5 hours are left", 3 + 8, m::leastPenance);
        Checks.index("36: index 2 is no more", () -> m.removeRepair(2));
        Checks.due("36: what was the third", 1, () -> m.removeRepair(1));
        Checks.due("36: the first is left", 5, m::leastPenance);
        Checks.due("36: the last one", 0, () -> m.removeRepair(0));
        Checks.due("36: no hours have passed", 0, m::hour);
        Checks.due("36: no penance either", 0, m::penanceDone);
    }

    private static void penance(int due, int... hoursAndPenances) {
        EngineMonastery m = with(3);
        for (int place = 0; place < hoursAndPenances.length; place += 2) {
            m.addRepair(0, hoursAndPenances[place], hoursAndPenances[place + 1]);
        }
        Checks.due("38: penance", due, m::leastPenance);
        Checks.due("39: penance", due, m::leastPenanceByTable);
    }

    private static void leastPenance() {
        penance(0);
        penance(81, 9, 9);
        penance(1 * 9 + 3 * 1, 2, 1, 1, 9);
        penance(1 * 1 + 4 * 2 + 7 * 1, 3, 2, 3, 1, 1, 1);
        penance(4 * 2 + 6 + 15, 4, 2, 2, 1, 9, 1);
        penance(9 * 9 * 36, 9, 9, 9, 9, 9, 9, 9, 9, 9, 9, 9, 9, 9, 9, 9, 9);
        penance(36, 1, 1, 1, 1, 1, 1, 1, 1, 1, 1, 1, 1, 1, 1, 1, 1);
    }

    private static void repair() {
        EngineMonastery m = with(3, 4);
        Checks.state("40: none is asked for", m::repair);
        m.setRate(0, 6);
        m.setRate(1, 1);
        m.addRepair(0, 3, 1);
        m.addRepair(1, 4, 2);
        m.addRepair(0, 9, 1);
        Checks.due("40: 4 / 2 is least", 1, m::repair);
        Checks.due("40: its hours have passed", 4, m::hour);
        Checks.due("41: four hours for all three", 4 * (1 + 2 + 1), m::penanceDone);
        Checks.due("40: it is not asked for any more", 2, m::repairCount);
        Checks.due("40: the engines ran", 0, () -> m.oilOf(0, 0));
        Checks.due("40: this one too", 4, () -> m.oilOf(1, 3));
        Checks.due("40: but has no wear", 0, () -> m.wearOf(1, 3));
        Checks.due("40: the other engine has", 5, () -> m.wearOf(0, 0));
        Checks.due("40: 24 strokes, nine knocks", 9, () -> m.knockCount(0));
        Checks.due("40: three of them in hour 3", 3, () -> m.knocksIn(3));
        Checks.due("38: from now on", 3 * 1 + 12 * 1, m::leastPenance);
        Checks.due("40: then 3 / 1", 0, m::repair);
        Checks.due("41: three hours for two", 16 + 3 * 2, m::penanceDone);
        Checks.due("40: no wear", 0, () -> m.wearOf(0, 0));
        Checks.due("40: wear since its repair", 1, () -> m.wearOf(1, 0));
        Checks.due("40: the last one", 0, m::repair);
        Checks.due("41: nine hours for one", 22 + 9, m::penanceDone);
        Checks.due("43: all hours", 16, m::hour);
        Checks.state("40: none is left", m::repair);
        m.pass(5);
        Checks.due("41: hours that pass are no penance", 31, m::penanceDone);
    }

    private static void repairOrder() {
        // Equal fractions: 2 / 1, 4 / 2, 6 / 3; and 9 / 5 before them, 9 / 4 behind them.
        EngineMonastery m = with(3, 3, 3, 3);
        m.addRepair(3, 9, 4);
        m.addRepair(1, 4, 2);
        m.addRepair(0, 2, 1);
        m.addRepair(2, 6, 3);
        m.addRepair(3, 9, 5);
        Checks.due("40: 9 / 5", 3, m::repair);
        Checks.due("40: 4 / 2, the lowest index", 1, m::repair);
        Checks.due("40: 2 / 1", 0, m::repair);
        m.removeRepair(0);
        Checks.due("40: 6 / 3", 2, m::repair);
        Checks.due("40: 9 / 4 was withdrawn", 0, m::repairCount);
    }

    private static void pass() {
        EngineMonastery m = with(3, 3);
        Checks.due("43: hour 0", 0, m::hour);
        Checks.due("42: no rate, no knocks", 0, () -> m.pass(48));
        Checks.due("43: 48", 48, m::hour);
        m.setRate(0, 8);
        m.setRate(1, 1);
        Checks.due("42: 16 strokes, one knock", 1, () -> m.pass(2));
        Checks.due("43: 50", 50, m::hour);
        Checks.due("42: eight more, and engine 1 has oil", 8, () -> m.pass(1));
        Checks.argument("42: no hours", () -> m.pass(0));
        Checks.argument("42: 49", () -> m.pass(49));
        Checks.argument("42: -1", () -> m.pass(-1));
        Checks.due("43: a failed call changes nothing", 51, m::hour);
        Checks.due("42: engine 1 knocks from its 16th stroke on", 48 * 8 + 48 - 12, () -> m.pass(48));
        EngineMonastery empty = new EngineMonastery();
        Checks.due("42: without engines", 0, () -> empty.pass(1));
        Checks.due("43: one hour", 1, empty::hour);
    }

    private static void knocksIn() {
        EngineMonastery m = with(3, 3);
        Checks.element("44: no knocks", () -> m.knocksIn(0));
        m.run(0, 15);
        Checks.element("44: still none", () -> m.knocksIn(0));
        m.run(0, 2);
        m.run(1, 18);
        Checks.due("44: both engines together", 5, () -> m.knocksIn(0));
        m.setRate(0, 2);
        m.pass(1);
        Checks.due("44: in the hour that has come", 2, () -> m.knocksIn(1));
        m.run(1, 4);
        Checks.due("44: later in the same hour", 6, () -> m.knocksIn(1));
        m.setRate(0, 0);
        m.pass(5);
        Checks.element("44: a quiet hour", () -> m.knocksIn(4));
        m.setRate(0, 1);
        m.pass(10);
        Checks.due("44: twelve hours: 0, 1, 7 to 16", 5, () -> m.knocksIn(0));
        m.pass(1);
        Checks.element("44: hour 0 is not kept", () -> m.knocksIn(0));
        Checks.due("44: hour 1 is", 6, () -> m.knocksIn(1));
        Checks.due("44: and the present one", 1, () -> m.knocksIn(17));
        Checks.element("44: hour 18", () -> m.knocksIn(18));
        Checks.element("44: hour -1", () -> m.knocksIn(-1));
        Checks.element("44: least hour", () -> m.knocksIn(Integer.MIN_VALUE));
        m.undo();
        Checks.due("44: undone", 5, () -> m.knocksIn(0));
        Checks.element("44: undone too", () -> m.knocksIn(17));
    }

    private static void hourOfKnocks() {
        EngineMonastery m = with(3);
        Checks.element("45: no knocks", () -> m.hourOfKnocks(0));
        m.pass(2);
        m.run(0, 16);
        m.pass(3);
        m.run(0, 1);
        int[][] due = {{0, 2}, {-1, 2}, {Integer.MIN_VALUE, 2}, {2, 2}, {3, 5}, {5, 5}};
        for (int[] pair : due) {
            Checks.due("45: from " + pair[0], pair[1], () -> m.hourOfKnocks(pair[0]));
        }
        Checks.element("45: from 6", () -> m.hourOfKnocks(6));
        Checks.element("45: from the greatest", () -> m.hourOfKnocks(Integer.MAX_VALUE));
        m.setRate(0, 1);
        m.pass(11);
        Checks.due("45: hour 2 is not kept", 5, () -> m.hourOfKnocks(0));
        m.pass(1);
        Checks.due("45: nor hour 5", 6, () -> m.hourOfKnocks(0));
    }
}
