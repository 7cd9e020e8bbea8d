/** The boundary cases of promises 1 to 14. */
final class BoundariesOfEngines extends Boundaries {
    private BoundariesOfEngines() {
    }

    static void run() {
        newObject();
        addEngine();
        exchange();
        setRate();
        counts();
        orderAt();
        dueAfter();
        turns();
        evenness();
        evenOrders();
    }

    private static void newObject() {
        under("Promise 1");
        says("Creates a monastery without engines, monks and repairs.");
        due(0, () -> new EngineMonastery().engineCount());
        due(INDEX, () -> new EngineMonastery().cylinderCount(0));
        due(ELEMENT, () -> new EngineMonastery().engineAtRank(0));
        due(INDEX, () -> new EngineMonastery().setAble(0, 0, true));
        due(0, () -> new EngineMonastery().mostVigils());
        due(0, () -> new EngineMonastery().mostVigilsByTable());
        due(0, () -> new EngineMonastery().repairCount());
        due(0, () -> new EngineMonastery().leastPenance());
        due(0, () -> new EngineMonastery().leastPenanceByTable());
        due(STATE, () -> new EngineMonastery().repair());
        due(0, () -> new EngineMonastery().addEngine(3));
        due(0, () -> new EngineMonastery().addMonk());
        due(0, () -> with(3).addRepair(0, 1, 1));
        due(true, () -> new EngineMonastery().isConsistent());
    }

    private static void addEngine() {
        under("Promise 2");
        says("Adds an engine.");
        EngineMonastery m = new EngineMonastery();
        for (int engine = 0; engine < 4; engine++) {
            int next = engine;
            due(next, () -> m.addEngine(8));
            due(next + 1, m::engineCount);
        }

        says("Its firing order is that of the numbers of its cylinders.");
        for (int cylinders = 3; cylinders <= 8; cylinders++) {
            EngineMonastery one = with(8);
            one.exchange(0, 0, 7);
            one.undo();
            one.undo();
            one.addEngine(cylinders);
            for (int place = 0; place < cylinders; place++) {
                int asked = place;
                due(asked, () -> one.orderAt(0, asked));
            }
        }

        for (Scene scene : REUSED) {
            due("1:*01234567", () -> engineOf(scene.make(), 1));
        }

        says("- `cylinders`: the number of cylinders, 3 to 8");
        for (int cylinders = 3; cylinders <= 8; cylinders++) {
            int number = cylinders;
            due(number, () -> with(number).cylinderCount(0));
        }

        says("Throws `IllegalArgumentException` if the number is out of range");
        refusedBeside(3, 8, ARGUMENT, EMPTY, EngineMonastery::addEngine);
        refusedBeside(3, 8, ARGUMENT, BUSY, EngineMonastery::addEngine);

        says("Throws `IllegalStateException` if there are 4 engines");
        due(3, () -> with(3, 3, 3).addEngine(8));
        for (int cylinders = 3; cylinders <= 8; cylinders++) {
            int number = cylinders;
            refused(STATE, FULL, x -> x.addEngine(number));
        }
        refused(STATE, () -> with(3, 4, 5, 6), x -> x.addEngine(3));
    }

    private static void exchange() {
        under("Promise 3");
        says("Exchanges the cylinders at two places of a firing order.");
        EngineMonastery m = with(8, 3);
        m.exchange(0, 0, 7);
        m.exchange(0, 4, 3);
        due("0:*71243560", () -> engineOf(m, 0));
        due("1:*012", () -> engineOf(m, 1));
        m.exchange(0, 7, 0);
        due("0:*01243567", () -> engineOf(m, 0));

        says("- `place`: a place, from 0");
        due(2, () -> with(4).exchange(0, 0, 2));
        due(2, () -> with(4).exchange(0, 3, 2));

        says("- `other`: another place, possibly the same");
        for (int place = 0; place < 3; place++) {
            int same = place;
            EngineMonastery one = ordered(1, 2, 0);
            due(one.orderAt(0, same), () -> one.exchange(0, same, same));
            due("0:*120", () -> engineOf(one, 0));
        }
        due(0, () -> with(4).exchange(0, 2, 0));
        due(3, () -> with(4).exchange(0, 2, 3));

        says("Returns the cylinder at the first of these places after the call.");
        due(7, () -> with(8).exchange(0, 0, 7));
        due(0, () -> with(8).exchange(0, 7, 0));

        says("Throws `IndexOutOfBoundsException` if there is no such engine or no such place, for either");
        refusedBeside(0, 1, INDEX, BUSY, (x, engine) -> x.exchange(engine, 0, 1));
        refusedBeside(0, 3, INDEX, BUSY, (x, place) -> x.exchange(0, place, 1));
        refusedBeside(0, 3, INDEX, BUSY, (x, other) -> x.exchange(0, 1, other));
        refusedBeside(0, 2, INDEX, BUSY, (x, place) -> x.exchange(1, place, place));
        refusedBeside(0, 7, INDEX, FULL, (x, place) -> x.exchange(3, place, 0));
        refusedBeside(0, 7, INDEX, FULL, (x, other) -> x.exchange(3, 0, other));
        refused(INDEX, EMPTY, x -> x.exchange(0, 0, 0));
        due(0, () -> BUSY.make().exchange(0, 3, 0));
    }

    private static void setRate() {
        under("Promise 4");
        says("Sets by how many strokes an engine runs in an hour.");
        for (int strokes = 0; strokes <= 9; strokes++) {
            EngineMonastery m = with(8, 8);
            m.setRate(1, 9);
            m.setRate(1, strokes);
            m.pass(1);
            due(100 - strokes, m::allOil);
            due(strokes % 8, () -> m.dueAfter(1, 0));
        }

        says("- `strokes`: the number of strokes, 0 to 9");
        allowed(0, 9, 2, BUSY, (x, strokes) -> x.setRate(0, strokes));

        says("Returns the number before the call.");
        EngineMonastery rates = with(3, 3);
        due(0, () -> rates.setRate(0, 9));
        due(9, () -> rates.setRate(0, 9));
        due(9, () -> rates.setRate(0, 0));
        due(0, () -> rates.setRate(1, 0));

        says("Throws `IndexOutOfBoundsException` if there is no such engine");
        refusedBeside(0, 1, INDEX, BUSY, (x, engine) -> x.setRate(engine, 3));
        refusedBeside(0, 3, INDEX, FULL, (x, engine) -> x.setRate(engine, 3));
        refused(INDEX, EMPTY, x -> x.setRate(0, 0));
        due(1, () -> BUSY.make().setRate(1, 3));
        due(4, () -> FULL.make().setRate(3, 3));

        says("Throws `IllegalArgumentException` if the number is out of range");
        refusedBeside(0, 9, ARGUMENT, BUSY, (x, strokes) -> x.setRate(0, strokes));
        refusedBeside(0, 9, ARGUMENT, BUSY, (x, strokes) -> x.setRate(1, strokes));
    }

    private static void counts() {
        under("Promise 5");
        says("Returns the number of engines.");
        EngineMonastery m = new EngineMonastery();
        for (int count = 0; count < 4; count++) {
            int due = count;
            due(due, m::engineCount);
            m.addEngine(3);
        }
        due(4, m::engineCount);
        m.undo();
        due(3, m::engineCount);

        under("Promise 6");
        says("Returns the number of cylinders of an engine.");
        due(3, () -> with(3, 8).cylinderCount(0));
        due(8, () -> with(3, 8).cylinderCount(1));

        says("Throws `IndexOutOfBoundsException` if there is no such engine");
        refusedBeside(0, 1, INDEX, BUSY, EngineMonastery::cylinderCount);
        refusedBeside(0, 3, INDEX, FULL, EngineMonastery::cylinderCount);
        refused(INDEX, EMPTY, x -> x.cylinderCount(0));
        due(8, () -> FULL.make().cylinderCount(3));
    }

    private static void orderAt() {
        under("Promise 7");
        says("Returns the cylinder at a place of a firing order.");
        EngineMonastery m = ordered(4, 3, 0, 1, 2);
        due(4, () -> m.orderAt(0, 0));
        due(0, () -> m.orderAt(0, 2));
        due(2, () -> m.orderAt(0, 4));
        m.run(0, 3);
        due(4, () -> m.orderAt(0, 0));

        says("- `place`: the place, from 0");
        due(0, () -> with(3).orderAt(0, 0));
        due(2, () -> with(3).orderAt(0, 2));
        due(7, () -> with(8).orderAt(0, 7));

        says("Throws `IndexOutOfBoundsException` if there is no such engine or no such place");
        refusedBeside(0, 1, INDEX, BUSY, (x, engine) -> x.orderAt(engine, 0));
        refusedBeside(0, 3, INDEX, BUSY, (x, place) -> x.orderAt(0, place));
        refusedBeside(0, 2, INDEX, BUSY, (x, place) -> x.orderAt(1, place));
        refusedBeside(0, 7, INDEX, FULL, (x, place) -> x.orderAt(3, place));
        refused(INDEX, EMPTY, x -> x.orderAt(0, 0));
    }

    private static void dueAfter() {
        under("Promise 8");
        says("Returns the cylinder that is due after a number of strokes, found by a division.");
        for (int cylinders = 3; cylinders <= 8; cylinders++) {
            EngineMonastery m = with(cylinders);
            m.exchange(0, 0, cylinders - 1);
            m.run(0, cylinders - 1);
            int last = cylinders - 1;
            due(0, () -> m.dueAfter(0, 0));
            due(last, () -> m.dueAfter(0, 1));
            due(last - 1, () -> m.dueAfter(0, last));
            due(0, () -> m.dueAfter(0, last + 1));
        }

        says("- `strokes`: the number of strokes, 0 to 9999");
        due(0, () -> with(8).dueAfter(0, 0));
        due(9999 % 8, () -> with(8).dueAfter(0, 9999));
        due(9998 % 7, () -> with(7).dueAfter(0, 9998));

        says("Throws `IndexOutOfBoundsException` if there is no such engine");
        refusedBeside(0, 1, INDEX, BUSY, (x, engine) -> x.dueAfter(engine, 1));
        refusedBeside(0, 3, INDEX, FULL, (x, engine) -> x.dueAfter(engine, 1));
        refused(INDEX, EMPTY, x -> x.dueAfter(0, 0));

        says("Throws `IllegalArgumentException` if the number is out of range");
        refusedBeside(0, 9999, ARGUMENT, BUSY, (x, strokes) -> x.dueAfter(1, strokes));

        under("Promise 9");
        says("Returns the same cylinder as dueAfter(), found stroke by stroke.");
        for (int cylinders = 3; cylinders <= 8; cylinders++) {
            EngineMonastery m = with(cylinders);
            m.exchange(0, 0, 2);
            m.run(0, cylinders - 1);
            int[] numbers = {0, 1, cylinders - 1, cylinders, 2 * cylinders, 9998, 9999};
            for (int strokes : numbers) {
                due(m.dueAfter(0, strokes), () -> m.dueAfterByStrokes(0, strokes));
            }
        }

        says("- `strokes`: the number of strokes, 0 to 9999");
        due(0, () -> with(8).dueAfterByStrokes(0, 0));
        due(9999 % 8, () -> with(8).dueAfterByStrokes(0, 9999));
        due(9998 % 7, () -> with(7).dueAfterByStrokes(0, 9998));

        says("Throws `IndexOutOfBoundsException` if there is no such engine");
        refusedBeside(0, 1, INDEX, BUSY, (x, engine) -> x.dueAfterByStrokes(engine, 1));
        refusedBeside(0, 3, INDEX, FULL, (x, engine) -> x.dueAfterByStrokes(engine, 1));
        refused(INDEX, EMPTY, x -> x.dueAfterByStrokes(0, 0));

        says("Throws `IllegalArgumentException` if the number is out of range");
        refusedBeside(0, 9999, ARGUMENT, BUSY, (x, strokes) -> x.dueAfterByStrokes(1, strokes));
    }

    private static void turns() {
        under("Promise 10");
        says("Returns the turn of a firing order, found from the lengths of its cycles.");
        due(1, () -> with(3).turnOf(0));
        due(2, () -> ordered(1, 0, 3, 2, 5, 4, 7, 6).turnOf(0));
        due(8, () -> ordered(1, 2, 3, 4, 5, 6, 7, 0).turnOf(0));
        due(12, () -> ordered(1, 2, 0, 4, 5, 6, 3).turnOf(0));
        due(15, () -> ordered(1, 2, 0, 4, 5, 6, 7, 3).turnOf(0));

        says("Throws `IndexOutOfBoundsException` if there is no such engine");
        refusedBeside(0, 1, INDEX, BUSY, EngineMonastery::turnOf);
        refusedBeside(0, 3, INDEX, FULL, EngineMonastery::turnOf);
        refused(INDEX, EMPTY, x -> x.turnOf(0));

        under("Promise 11");
        says("Returns the same number as turnOf(), found by putting the order into itself again and again.");
        due(1, () -> with(3).turnByRepeating(0));
        due(2, () -> ordered(1, 0, 3, 2, 5, 4, 7, 6).turnByRepeating(0));
        due(8, () -> ordered(1, 2, 3, 4, 5, 6, 7, 0).turnByRepeating(0));
        due(12, () -> ordered(1, 2, 0, 4, 5, 6, 3).turnByRepeating(0));
        due(15, () -> ordered(1, 2, 0, 4, 5, 6, 7, 3).turnByRepeating(0));

        says("Throws `IndexOutOfBoundsException` if there is no such engine");
        refusedBeside(0, 1, INDEX, BUSY, EngineMonastery::turnByRepeating);
        refusedBeside(0, 3, INDEX, FULL, EngineMonastery::turnByRepeating);
        refused(INDEX, EMPTY, x -> x.turnByRepeating(0));
    }

    private static void evenness() {
        under("Promise 12");
        says("Returns the evenness of a firing order.");
        for (int cylinders = 3; cylinders <= 8; cylinders++) {
            EngineMonastery m = with(cylinders);
            due(1, () -> m.evenness(0));
        }
        due(2, () -> ordered(0, 2, 4, 1, 3).evenness(0));
        due(3, () -> ordered(0, 3, 6, 2, 5, 1, 4).evenness(0));
        due(3, () -> ordered(0, 3, 6, 1, 4, 7, 2, 5).evenness(0));

        says("Throws `IndexOutOfBoundsException` if there is no such engine");
        refusedBeside(0, 1, INDEX, BUSY, EngineMonastery::evenness);
        refusedBeside(0, 3, INDEX, FULL, EngineMonastery::evenness);
        refused(INDEX, EMPTY, x -> x.evenness(0));
    }

    private static int evenOrders(int cylinders, int evenness) {
        return evenOrders(new int[cylinders], 1, evenness);
    }

    /** Lists all firing orders from a place on, as the document tells them. */
    private static int evenOrders(int[] order, int place, int evenness) {
        int count = 0;
        if (place == order.length) {
            int last = order[place - 1];
            return Math.min(last, order.length - last) >= evenness ? 1 : 0;
        }
        for (int cylinder = 1; cylinder < order.length; cylinder++) {
            boolean used = false;
            for (int before = 1; before < place; before++) {
                used |= order[before] == cylinder;
            }
            int steps = Math.abs(cylinder - order[place - 1]);
            if (!used && steps >= evenness && order.length - steps >= evenness) {
                order[place] = cylinder;
                count += evenOrders(order, place + 1, evenness);
            }
        }
        return count;
    }

    private static void evenOrders() {
        under("Promise 13");
        says("Returns the number of firing orders of an engine that begin with cylinder 0 and have at least an "
                + "evenness, found with a table of sets of cylinders.");
        for (int cylinders = 3; cylinders <= 8; cylinders++) {
            EngineMonastery m = with(cylinders);
            for (int evenness = 1; evenness <= 4; evenness++) {
                int least = evenness;
                due(evenOrders(cylinders, evenness), () -> m.evenOrders(0, least));
            }
        }
        // The evenness of 0 2 4 1 3 and of 0 3 1 4 2 is just 2.
        due(2, () -> with(5).evenOrders(0, 2));
        due(0, () -> with(5).evenOrders(0, 3));

        says("- `evenness`: the evenness, 1 to 4");
        due(5040, () -> with(8).evenOrders(0, 1));
        due(0, () -> with(8).evenOrders(0, 4));
        due(2, () -> with(3).evenOrders(0, 1));
        due(0, () -> with(3).evenOrders(0, 4));

        says("Throws `IndexOutOfBoundsException` if there is no such engine");
        refusedBeside(0, 1, INDEX, BUSY, (x, engine) -> x.evenOrders(engine, 1));
        refusedBeside(0, 3, INDEX, FULL, (x, engine) -> x.evenOrders(engine, 4));
        refused(INDEX, EMPTY, x -> x.evenOrders(0, 1));

        says("Throws `IllegalArgumentException` if the evenness is out of range");
        refusedBeside(1, 4, ARGUMENT, BUSY, (x, evenness) -> x.evenOrders(0, evenness));
        refusedBeside(1, 4, ARGUMENT, FULL, (x, evenness) -> x.evenOrders(3, evenness));

        under("Promise 14");
        says("Returns the same number as evenOrders(), found by trying.");
        for (int cylinders = 3; cylinders <= 8; cylinders++) {
            EngineMonastery m = with(cylinders);
            for (int evenness = 1; evenness <= 4; evenness++) {
                int least = evenness;
                due(evenOrders(cylinders, evenness), () -> m.evenOrdersByTrying(0, least));
            }
        }

        says("- `evenness`: the evenness, 1 to 4");
        due(5040, () -> with(8).evenOrdersByTrying(0, 1));
        due(0, () -> with(8).evenOrdersByTrying(0, 4));
        due(2, () -> with(3).evenOrdersByTrying(0, 1));
        due(0, () -> with(3).evenOrdersByTrying(0, 4));

        says("Throws `IndexOutOfBoundsException` if there is no such engine");
        refusedBeside(0, 1, INDEX, BUSY, (x, engine) -> x.evenOrdersByTrying(engine, 1));
        refusedBeside(0, 3, INDEX, FULL, (x, engine) -> x.evenOrdersByTrying(engine, 4));
        refused(INDEX, EMPTY, x -> x.evenOrdersByTrying(0, 1));

        says("Throws `IllegalArgumentException` if the evenness is out of range");
        refusedBeside(1, 4, ARGUMENT, BUSY, (x, evenness) -> x.evenOrdersByTrying(0, evenness));
        refusedBeside(1, 4, ARGUMENT, FULL, (x, evenness) -> x.evenOrdersByTrying(3, evenness));
    }
}
