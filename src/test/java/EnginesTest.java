/** Promises 1 to 14: a new object, engines, their firing orders, turns and evenness. */
public final class EnginesTest {
    public static void main(String[] args) {
        newObject();
        addEngine();
        exchange();
        setRate();
        cylinderCountAndOrderAt();
        dueAfter();
        turns();
        evenness();
        evenOrders();
        Checks.end();
    }

    private static EngineMonastery with(int... cylinders) {
        EngineMonastery monastery = new EngineMonastery();
        for (int number : cylinders) {
            monastery.addEngine(number);
        }
        return monastery;
    }

    /** Makes the firing order of engine 0 the one given. */
    private static EngineMonastery ordered(int... order) {
        EngineMonastery monastery = with(order.length);
        for (int place = 0; place < order.length; place++) {
            int from = place;
            while (monastery.orderAt(0, from) != order[place]) {
                from++;
            }
            monastery.exchange(0, place, from);
        }
        return monastery;
    }

    private static void newObject() {
        EngineMonastery fresh = new EngineMonastery();
        Checks.due("1: no engines", 0, fresh::engineCount);
        Checks.due("1: no repairs", 0, fresh::repairCount);
        Checks.due("1: hour 0", 0, fresh::hour);
        Checks.due("1: no penance", 0, fresh::penanceDone);
        Checks.due("1: the store holds 20", 20, fresh::allOil);
        Checks.due("1: accounts", 20, fresh::allOilByAccounts);
        Checks.index("1: no monk", () -> fresh.setAble(0, 0, true));
        Checks.index("1: an empty line", () -> fresh.lineAt(0));
        Checks.element("1: no error position", fresh::errorPosition);
        Checks.element("1: no failed command", fresh::failedCommand);
        Checks.state("1: nothing to undo", fresh::undo);
        Checks.state("1: no snapshot", fresh::restore);
        Checks.due("1: consistent", true, fresh::isConsistent);
    }

    private static void addEngine() {
        EngineMonastery m = new EngineMonastery();
        Checks.argument("2: two cylinders", () -> m.addEngine(2));
        Checks.argument("2: nine cylinders", () -> m.addEngine(9));
        Checks.argument("2: the least number", () -> m.addEngine(Integer.MIN_VALUE));
        Checks.due("5: still none", 0, m::engineCount);
        Checks.due("2: three cylinders", 0, () -> m.addEngine(3));
        Checks.due("2: eight cylinders", 1, () -> m.addEngine(8));
        Checks.due("5: two engines", 2, m::engineCount);
        Checks.due("2: third", 2, () -> m.addEngine(4));
        Checks.due("2: fourth", 3, () -> m.addEngine(5));
        Checks.state("2: a fifth one", () -> m.addEngine(3));
        Checks.argument("2: the argument comes first", () -> m.addEngine(2));
        Checks.due("5: four engines", 4, m::engineCount);
        for (int place = 0; place < 8; place++) {
            int at = place;
            Checks.due("2: order", at, () -> m.orderAt(1, at));
            Checks.due("2: oil", 5, () -> m.oilOf(1, at));
            Checks.due("2: wear", 0, () -> m.wearOf(1, at));
        }
        Checks.due("2: place 0 is due", 0, () -> m.dueAfter(1, 0));
        Checks.due("2: rate 0", 0, () -> m.setRate(1, 1));
        Checks.due("2: no knocks", 0, () -> m.knockCount(1));
    }

    private static void exchange() {
        EngineMonastery m = with(4, 3);
        Checks.due("3: two places", 2, () -> m.exchange(0, 0, 2));
        Checks.due("3: the other place", 0, () -> m.orderAt(0, 2));
        Checks.due("3: the same place", 1, () -> m.exchange(0, 1, 1));
        Checks.due("3: the other way round", 0, () -> m.exchange(0, 3, 2));
        Checks.due("3: place 2 after it", 3, () -> m.orderAt(0, 2));
        Checks.due("3: the other engine is as it was", 0, () -> m.orderAt(1, 0));
        Checks.index("3: no such engine", () -> m.exchange(2, 0, 1));
        Checks.index("3: engine -1", () -> m.exchange(-1, 0, 1));
        Checks.index("3: place 4", () -> m.exchange(0, 4, 0));
        Checks.index("3: other place 4", () -> m.exchange(0, 0, 4));
        Checks.index("3: place -1", () -> m.exchange(0, -1, 0));
        Checks.index("3: other place -1", () -> m.exchange(0, 0, -1));
        Checks.index("3: place 3 of three", () -> m.exchange(1, 3, 0));
        Checks.due("3: a failed call changes nothing", 2, () -> m.orderAt(0, 0));
        m.run(0, 1);
        m.exchange(0, 1, 3);
        Checks.due("3: the place that is due stays, not its cylinder", 0, () -> m.dueAfter(0, 0));
    }

    private static void setRate() {
        EngineMonastery m = with(3, 3);
        Checks.due("4: from 0", 0, () -> m.setRate(0, 9));
        Checks.due("4: from 9", 9, () -> m.setRate(0, 0));
        Checks.due("4: from 0 again", 0, () -> m.setRate(0, 4));
        Checks.argument("4: ten", () -> m.setRate(0, 10));
        Checks.argument("4: -1", () -> m.setRate(0, -1));
        Checks.due("4: as it was", 4, () -> m.setRate(0, 4));
        Checks.index("4: engine 2", () -> m.setRate(2, 3));
        Checks.index("4: the engine comes first", () -> m.setRate(-1, 10));
        Checks.due("4: the other engine", 0, () -> m.setRate(1, 2));
        m.pass(2);
        Checks.due("4: four strokes in each hour", 3, () -> m.wearOf(0, 0));
        Checks.due("4: two strokes in each hour", 2, () -> m.wearOf(1, 0));
    }

    private static void cylinderCountAndOrderAt() {
        EngineMonastery m = with(6, 3);
        Checks.due("6: six", 6, () -> m.cylinderCount(0));
        Checks.due("6: three", 3, () -> m.cylinderCount(1));
        Checks.index("6: engine 2", () -> m.cylinderCount(2));
        Checks.index("6: engine -1", () -> m.cylinderCount(-1));
        Checks.index("6: no engine at all", () -> new EngineMonastery().cylinderCount(0));
        m.exchange(0, 5, 0);
        Checks.due("7: first place", 5, () -> m.orderAt(0, 0));
        Checks.due("7: last place", 0, () -> m.orderAt(0, 5));
        Checks.index("7: place 6", () -> m.orderAt(0, 6));
        Checks.index("7: place -1", () -> m.orderAt(0, -1));
        Checks.index("7: engine 2", () -> m.orderAt(2, 0));
        Checks.index("7: engine -1", () -> m.orderAt(-1, 0));
    }

    private static void dueAfter() {
        EngineMonastery m = ordered(3, 0, 4, 1, 2);
        m.run(0, 2);
        int[] due = {4, 1, 2, 3, 0, 4};
        for (int strokes = 0; strokes < due.length; strokes++) {
            int number = strokes;
            Checks.due("8: after some strokes", due[number], () -> m.dueAfter(0, number));
            Checks.due("9: after some strokes", due[number], () -> m.dueAfterByStrokes(0, number));
        }
        Checks.due("8: most strokes", 0, () -> m.dueAfter(0, 9999));
        Checks.due("9: most strokes", 0, () -> m.dueAfterByStrokes(0, 9999));
        Checks.due("8: nothing has moved", 4, () -> m.dueAfter(0, 0));
        Checks.due("9: nothing has moved", 4, () -> m.dueAfterByStrokes(0, 0));
        Checks.argument("8: 10000", () -> m.dueAfter(0, 10000));
        Checks.argument("9: 10000", () -> m.dueAfterByStrokes(0, 10000));
        Checks.argument("8: -1", () -> m.dueAfter(0, -1));
        Checks.argument("9: -1", () -> m.dueAfterByStrokes(0, -1));
        Checks.index("8: the engine comes first", () -> m.dueAfter(1, -1));
        Checks.index("9: the engine comes first", () -> m.dueAfterByStrokes(1, -1));
        Checks.index("8: engine -1", () -> m.dueAfter(-1, 0));
        Checks.index("9: engine -1", () -> m.dueAfterByStrokes(-1, 0));
    }

    private static void turns() {
        turn(1, 0, 1, 2);
        turn(2, 1, 0, 2);
        turn(3, 1, 2, 0);
        turn(2, 1, 0, 3, 2);
        turn(6, 1, 2, 0, 4, 3);
        turn(8, 1, 2, 3, 4, 5, 6, 7, 0);
        turn(15, 1, 2, 0, 4, 5, 6, 7, 3);
        turn(12, 1, 2, 0, 4, 5, 6, 3, 7);
        turn(4, 1, 0, 3, 4, 5, 2, 7, 6);
        turn(12, 2, 3, 4, 5, 6, 1, 0, 7);
        turn(10, 1, 0, 3, 4, 5, 6, 2);
        EngineMonastery m = with(3);
        Checks.index("10: engine 1", () -> m.turnOf(1));
        Checks.index("11: engine 1", () -> m.turnByRepeating(1));
        Checks.index("10: engine -1", () -> m.turnOf(-1));
        Checks.index("11: engine -1", () -> m.turnByRepeating(-1));
    }

    private static void turn(int due, int... order) {
        EngineMonastery m = ordered(order);
        Checks.due("10: turn", due, () -> m.turnOf(0));
        Checks.due("11: turn", due, () -> m.turnByRepeating(0));
    }

    private static void evenness() {
        Checks.due("12: in order", 1, () -> with(8).evenness(0));
        Checks.due("12: three cylinders", 1, () -> ordered(1, 0, 2).evenness(0));
        Checks.due("12: five, by steps of two", 2, () -> ordered(0, 2, 4, 1, 3).evenness(0));
        Checks.due("12: eight, by steps of three", 3, () -> ordered(0, 3, 6, 1, 4, 7, 2, 5).evenness(0));
        Checks.due("12: six, 2 3 2 2 3 2", 2, () -> ordered(0, 2, 5, 3, 1, 4).evenness(0));
        Checks.due("12: only the first two are near", 1, () -> ordered(0, 1, 3, 5, 2, 4).evenness(0));
        Checks.due("12: the last place leads to place 0", 1, () -> ordered(0, 2, 4, 6, 1, 3, 5, 7).evenness(0));
        Checks.due("12: seven, by steps of three", 3, () -> ordered(0, 3, 6, 2, 5, 1, 4).evenness(0));
        Checks.index("12: engine 1", () -> with(3).evenness(1));
        Checks.index("12: engine -1", () -> with(3).evenness(-1));
    }

    private static void evenOrders() {
        // For 3 to 8 cylinders, the numbers for the evenness 1 to 4; found by listing all firing orders.
        int[][] due = {{2, 0, 0, 0}, {6, 0, 0, 0}, {24, 2, 0, 0}, {120, 6, 0, 0}, {720, 46, 2, 0}, {5040, 354, 10, 0}};
        for (int cylinders = 3; cylinders <= 8; cylinders++) {
            EngineMonastery m = with(cylinders);
            for (int evenness = 1; evenness <= 4; evenness++) {
                int number = due[cylinders - 3][evenness - 1];
                int least = evenness;
                Checks.due("13: " + cylinders + " with " + least, number, () -> m.evenOrders(0, least));
                Checks.due("14: " + cylinders + " with " + least, number, () -> m.evenOrdersByTrying(0, least));
            }
        }
        EngineMonastery m = ordered(2, 0, 1, 4, 3);
        Checks.due("13: whatever the firing order is", 2, () -> m.evenOrders(0, 2));
        Checks.due("14: whatever the firing order is", 2, () -> m.evenOrdersByTrying(0, 2));
        Checks.due("14: which stays as it is", 2, () -> m.orderAt(0, 0));
        for (int wrong : new int[] {0, 5, -1, Integer.MAX_VALUE}) {
            Checks.argument("13: evenness " + wrong, () -> m.evenOrders(0, wrong));
            Checks.argument("14: evenness " + wrong, () -> m.evenOrdersByTrying(0, wrong));
            Checks.index("13: the engine comes first", () -> m.evenOrders(1, wrong));
            Checks.index("14: the engine comes first", () -> m.evenOrdersByTrying(1, wrong));
        }
        Checks.index("13: engine -1", () -> m.evenOrders(-1, 2));
        Checks.index("14: engine -1", () -> m.evenOrdersByTrying(-1, 2));
    }
}
