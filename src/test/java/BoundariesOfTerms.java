/** The boundary cases that 'What it is' names, and 'Terms' from the engines to the hours. */
final class BoundariesOfTerms extends Boundaries {
    private BoundariesOfTerms() {
    }

    static void run() {
        under("What it is");
        calls();
        under("Terms");
        engines();
        strokes();
        turns();
        evenness();
        knocks();
        oil();
        vigils();
        repairOrder();
        hours();
    }

    private static void calls() {
        says("An object is used for at most 512 calls after it has been made; what later calls answer is free.");
        EngineMonastery hours = new EngineMonastery();
        for (int call = 1; call < 512; call++) {
            hours.pass(48);
        }
        due(511 * 48, hours::hour);
        EngineMonastery strokes = with(3);
        for (int call = 2; call < 512; call++) {
            int due = call == 2 ? 84 : 99;
            due(due, () -> strokes.run(0, 99));
        }
        due(510 * 99 - 15, () -> strokes.knocksIn(0));
        EngineMonastery changes = new EngineMonastery();
        for (int pair = 0; pair < 255; pair++) {
            changes.buyOil(1);
            changes.undo();
        }
        due(STATE, changes::undo);
        due(20, changes::allOil);
        EngineMonastery penances = with(4);
        for (int pair = 0; pair < 254; pair++) {
            penances.addRepair(0, 9, 9);
            penances.repair();
        }
        due(254 * 81, penances::penanceDone);
        due(254 * 9, penances::hour);
    }

    private static void engines() {
        says("There are at most 4 engines, numbered from 0.");
        EngineMonastery m = new EngineMonastery();
        for (int engine = 0; engine < 4; engine++) {
            int next = engine;
            due(INDEX, () -> m.cylinderCount(next));
            due(next, () -> m.addEngine(3 + next));
            due(3 + next, () -> m.cylinderCount(next));
        }
        due(STATE, () -> m.addEngine(3));
        due(4, m::engineCount);
        due(INDEX, () -> m.cylinderCount(4));
        due(INDEX, () -> m.cylinderCount(-1));

        says("An engine has cylinders, numbered from 0, each of which has oil, initially 5 units, and a wear, "
                + "initially 0.");
        for (int cylinders = 3; cylinders <= 8; cylinders++) {
            EngineMonastery one = with(cylinders);
            int count = cylinders;
            for (int cylinder = 0; cylinder < cylinders; cylinder++) {
                int asked = cylinder;
                due(5, () -> one.oilOf(0, asked));
                due(0, () -> one.wearOf(0, asked));
            }
            due(INDEX, () -> one.oilOf(0, -1));
            due(INDEX, () -> one.oilOf(0, count));
            due(INDEX, () -> one.wearOf(0, -1));
            due(INDEX, () -> one.wearOf(0, count));
        }
        for (Scene scene : REUSED) {
            for (int cylinder = 0; cylinder < 8; cylinder++) {
                int asked = cylinder;
                due(5, () -> scene.make().oilOf(1, asked));
                due(0, () -> scene.make().wearOf(1, asked));
            }
        }

        says("The firing order of an engine contains each of its cylinders once, at the places from 0 on.");
        for (int cylinders = 3; cylinders <= 8; cylinders++) {
            EngineMonastery one = with(cylinders);
            int last = cylinders - 1;
            one.exchange(0, 0, last);
            one.exchange(0, 1, last);
            int seen = 0;
            for (int place = 0; place < cylinders; place++) {
                seen += 1 << one.orderAt(0, place);
            }
            int all = seen;
            due((1 << cylinders) - 1, () -> all);
            due(last, () -> one.orderAt(0, 0));
            due(1, () -> one.orderAt(0, last));
            due(INDEX, () -> one.orderAt(0, -1));
            due(INDEX, () -> one.orderAt(0, last + 1));
        }

        says("One place is due, initially place 0.");
        EngineMonastery place = with(3, 8);
        due("0:*012", () -> engineOf(place, 0));
        due("1:*01234567", () -> engineOf(place, 1));
        place.exchange(0, 0, 2);
        due(2, () -> place.dueAfter(0, 0));
        due("0:*210", () -> engineOf(place, 0));
        place.run(1, 3);
        due(2, () -> place.dueAfter(0, 0));
        due(3, () -> place.dueAfter(1, 0));
        for (Scene scene : REUSED) {
            due("1:*01234567", () -> engineOf(scene.make(), 1));
        }

        says("The rate of an engine is initially 0.");
        EngineMonastery rates = with(3, 4, 5, 8);
        rates.pass(48);
        due(20 + 5 * 20, rates::allOil);
        for (int engine = 0; engine < 4; engine++) {
            int asked = engine;
            due(0, () -> rates.setRate(asked, 9));
        }
        for (Scene scene : REUSED) {
            due(0, () -> scene.make().setRate(1, 0));
        }
    }

    private static void strokes() {
        says("At a stroke, the cylinder at the place that is due fires if it has oil: one unit of its oil is burned, "
                + "and its wear increases by 1.");
        EngineMonastery m = with(3);
        m.run(0, 12);
        due(1, () -> m.oilOf(0, 0));
        due(4, () -> m.wearOf(0, 0));
        due(0, () -> m.run(0, 1));
        due(0, () -> m.oilOf(0, 0));
        due(5, () -> m.wearOf(0, 0));
        due(1, () -> m.oilOf(0, 1));
        due(0, () -> m.knockCount(0));
        m.exchange(0, 1, 2);
        due(0, () -> m.run(0, 1));
        due(0, () -> m.oilOf(0, 2));
        due(1, () -> m.oilOf(0, 1));

        says("Otherwise it knocks.");
        EngineMonastery dry = with(3);
        due(0, () -> dry.run(0, 15));
        due(1, () -> dry.run(0, 1));
        due(0, () -> dry.oilOf(0, 0));
        due(5, () -> dry.wearOf(0, 0));
        due(0, () -> dry.knockAt(0, 0));
        dry.oil(0, 1, 1);
        due(0, () -> dry.run(0, 1));
        due(6, () -> dry.wearOf(0, 1));
        due(1, () -> dry.knockCount(0));
        due(3, () -> dry.run(0, 3));
        due(4, () -> dry.knockCount(0));

        says("Then the next place is due, or place 0 after the last one.");
        for (int cylinders = 3; cylinders <= 8; cylinders++) {
            EngineMonastery one = with(cylinders);
            for (int stroke = 1; stroke <= 7 * cylinders; stroke++) {
                one.run(0, 1);
                int due = stroke % cylinders;
                due(due, () -> one.dueAfter(0, 0));
            }
        }
    }

    private static void turns() {
        says("To put a firing order into itself means to go from each cylinder k to the cylinder at place k.");
        due(3, () -> ordered(1, 2, 0).turnOf(0));
        due(3, () -> ordered(1, 2, 0).turnByRepeating(0));
        due(2, () -> ordered(1, 0, 2).turnOf(0));
        due(2, () -> ordered(1, 0, 2).turnByRepeating(0));

        says("The turn of a firing order is the smallest positive number of times that this has to be done, one after "
                + "the other, until each cylinder leads back to itself.");
        for (int cylinders = 3; cylinders <= 8; cylinders++) {
            EngineMonastery inOrder = with(cylinders);
            due(1, () -> inOrder.turnOf(0));
            due(1, () -> inOrder.turnByRepeating(0));
        }
        turn(8, 1, 2, 3, 4, 5, 6, 7, 0);
        turn(8, 7, 0, 1, 2, 3, 4, 5, 6);
        turn(15, 1, 2, 0, 4, 5, 6, 7, 3);
        turn(4, 1, 0, 3, 4, 5, 2, 6, 7);
        turn(6, 1, 0, 3, 4, 5, 6, 7, 2);
        turn(2, 0, 1, 2, 3, 4, 5, 7, 6);
        for (int cylinders = 3; cylinders <= 6; cylinders++) {
            everyOrder(new int[cylinders], 0, 0);
        }
    }

    private static void turn(int due, int... order) {
        EngineMonastery m = ordered(order);
        due(due, () -> m.turnOf(0));
        due(due, () -> m.turnByRepeating(0));
    }

    private static void everyOrder(int[] order, int place, int used) {
        if (place == order.length) {
            turn(turnOf(order), order);
            return;
        }
        for (int cylinder = 0; cylinder < order.length; cylinder++) {
            if ((used & 1 << cylinder) == 0) {
                order[place] = cylinder;
                everyOrder(order, place + 1, used | 1 << cylinder);
            }
        }
    }

    /** As the document tells it: go from k to the cylinder at place k until all are back. */
    private static int turnOf(int[] order) {
        int[] at = order.clone();
        for (int times = 1; ; times++) {
            boolean back = true;
            for (int cylinder = 0; cylinder < at.length; cylinder++) {
                back &= at[cylinder] == cylinder;
            }
            if (back) {
                return times;
            }
            for (int cylinder = 0; cylinder < at.length; cylinder++) {
                at[cylinder] = order[at[cylinder]];
            }
        }
    }

    private static void evenness() {
        says("The cylinders of an engine stand in a circle in the order of their numbers.");
        // All steps but those from 0 to 5 are 2 or 3 wide, on a line as in the circle.
        due(1, () -> ordered(0, 5, 2, 4, 1, 3).evenness(0));
        due(2, () -> ordered(0, 4, 2, 5, 1, 3).evenness(0));
        due(1, () -> ordered(0, 2, 1).evenness(0));

        says("The distance of two cylinders is the smaller number of steps from one to the other in this circle.");
        due(3, () -> ordered(0, 3, 6, 1, 4, 7, 2, 5).evenness(0));
        due(3, () -> ordered(0, 5, 2, 7, 4, 1, 6, 3).evenness(0));
        due(2, () -> ordered(0, 2, 4, 1, 3).evenness(0));
        due(2, () -> ordered(0, 3, 1, 4, 2).evenness(0));
        due(3, () -> ordered(0, 4, 1, 5, 2, 6, 3).evenness(0));

        says("The evenness of a firing order is the smallest distance of two cylinders at places that follow one "
                + "another, where place 0 follows the last place.");
        // One pair alone is near: at the first two places, in the middle, at the last two, and round the end.
        due(1, () -> ordered(0, 1, 3, 5, 2, 4).evenness(0));
        due(1, () -> ordered(2, 4, 0, 1, 3, 5).evenness(0));
        due(1, () -> ordered(3, 5, 2, 4, 0, 1).evenness(0));
        due(1, () -> ordered(1, 3, 5, 2, 4, 0).evenness(0));
        due(1, () -> ordered(5, 2, 4, 1, 3, 0).evenness(0));
    }

    private static void knocks() {
        says("For each engine, the cylinders of its latest 24 knocks are kept.");
        // Engine 0 knocks 0 1 2 3 0 and so on, from its 21st stroke.
        int[][] knocksKeptOldest = {{0, 0, -1}, {1, 1, 0}, {23, 23, 0}, {24, 24, 0}, {25, 24, 1}, {26, 24, 2},
            {47, 24, 3}, {48, 24, 0}, {49, 24, 1}, {79, 24, 3}};
        for (int[] row : knocksKeptOldest) {
            EngineMonastery m = with(4, 3);
            m.run(0, 20 + row[0]);
            due(row[1], () -> m.knockCount(0));
            due(row[2] < 0 ? ELEMENT : (Object) row[2], () -> m.knockAt(0, 0));
            due(row[2] < 0 ? ELEMENT : (Object) ((row[0] + 3) % 4), () -> m.knockAt(0, row[1] - 1));
            due(ELEMENT, () -> m.knockAt(0, row[1]));
            due(0, () -> m.knockCount(1));
        }
        // One knock after the other, so that each place of the 24 was once the oldest one.
        EngineMonastery ring = with(3);
        ring.run(0, 15);
        for (int knocks = 1; knocks <= 60; knocks++) {
            ring.run(0, 1);
            int latest = (knocks - 1) % 3;
            int oldest = Math.max(knocks - 24, 0) % 3;
            int kept = Math.min(knocks, 24);
            due(kept, () -> ring.knockCount(0));
            due(latest, () -> ring.knockAt(0, kept - 1));
            due(oldest, () -> ring.knockAt(0, 0));
        }
        for (Scene scene : REUSED) {
            due(0, () -> scene.make().knockCount(1));
        }

        says("The period of the kept knocks is the smallest positive number p for which each kept knock that has a "
                + "kept knock p places before it is of the same cylinder as that one; it is the number of kept knocks "
                + "if no smaller number does.");
        period(1, "0");
        period(1, "00");
        period(2, "01");
        period(2, "010");
        period(3, "011");
        period(3, "0110");
        period(4, "0011");
        period(3, "01201");
        period(4, "00010");
        period(5, "00011");
        period(23, "0123".repeat(5) + "0130");
        period(24, "0123".repeat(5) + "0111");
        period(1, "2".repeat(24));
        period(12, "012300000123".repeat(2));
        // Of 25 and 48 knocks the oldest ones are not kept.
        period(1, "0" + "1".repeat(24));
        period(23, "10" + "2".repeat(22) + "0");
        period(24, "01" + "2".repeat(22) + "0");
        period(4, "012".repeat(8) + "0123".repeat(6));

        says("In addition, the numbers of knocks of all engines together are kept for the latest 12 hours in which "
                + "there were knocks.");
        EngineMonastery m = with(3, 4);
        m.run(0, 17);
        m.run(1, 23);
        due(5, () -> m.knocksIn(0));
        m.setRate(0, 1);
        m.pass(11);
        due(5, () -> m.knocksIn(0));
        due(0, () -> m.hourOfKnocks(0));
        m.setRate(0, 0);
        m.pass(48);
        due(5, () -> m.knocksIn(0));
        due(ELEMENT, () -> m.knocksIn(12));
        m.run(1, 2);
        due(ELEMENT, () -> m.knocksIn(0));
        due(1, () -> m.hourOfKnocks(0));
        due(2, () -> m.knocksIn(59));
        m.run(0, 1);
        due(3, () -> m.knocksIn(59));
        due(1, () -> m.knocksIn(1));
        m.setRate(0, 2);
        m.setRate(1, 3);
        m.pass(1);
        due(5, () -> m.knocksIn(60));
        due(ELEMENT, () -> m.knocksIn(1));
        due(2, () -> m.hourOfKnocks(0));

        EngineMonastery each = knocked("0");
        for (int hour = 1; hour <= 25; hour++) {
            each.pass(1);
            each.run(0, hour + 1);
            // Hour 0 has one knock, hour 1 has two, and so on.
            for (int asked = 0; asked <= hour + 1; asked++) {
                int one = asked;
                boolean isKept = asked <= hour && asked > hour - 12;
                due(isKept ? (Object) (one + 1) : ELEMENT, () -> each.knocksIn(one));
            }
            int first = Math.max(0, hour - 11);
            due(first, () -> each.hourOfKnocks(0));
        }

        says("A knock at a stroke belongs to the present hour.");
        EngineMonastery hours = with(3);
        hours.setRate(0, 8);
        hours.pass(1);
        due(ELEMENT, () -> hours.hourOfKnocks(0));
        hours.pass(1);
        due(ELEMENT, () -> hours.knocksIn(1));
        due(1, () -> hours.knocksIn(2));
        hours.run(0, 3);
        due(4, () -> hours.knocksIn(2));
        due(ELEMENT, () -> hours.knocksIn(3));
        hours.pass(1);
        due(4, () -> hours.knocksIn(2));
        due(8, () -> hours.knocksIn(3));
    }

    private static void period(int due, String knocks) {
        EngineMonastery m = knocked(knocks);
        due(due, () -> m.knockPeriod(0));
        due(due, () -> m.knockPeriodByTrying(0));
    }

    private static void oil() {
        says("The store holds from 0 to 500 units of oil, initially 20.");
        due(20, () -> new EngineMonastery().allOil());
        due(25, () -> with(3).oil(0, 0, 20));
        due(STATE, () -> with(3).oil(0, 0, 21));
        due(STATE, () -> DRY.make().oil(0, 0, 1));
        due(1, () -> DRY.make().buyOil(1));
        EngineMonastery m = new EngineMonastery();
        for (int times = 0; times < 4; times++) {
            m.buyOil(99);
        }
        due(STATE, () -> m.buyOil(85));
        due(499, () -> m.buyOil(83));
        due(STATE, () -> m.buyOil(2));
        due(500, () -> m.buyOil(1));
        due(STATE, () -> m.buyOil(1));
    }

    private static void vigils() {
        says("There are the vigils 0 to 7 and at most 6 monks, numbered from 0.");
        EngineMonastery m = new EngineMonastery();
        for (int monk = 0; monk < 6; monk++) {
            int next = monk;
            due(INDEX, () -> m.setAble(next, 0, true));
            due(next, m::addMonk);
            due(false, () -> m.setAble(next, 0, true));
            due(false, () -> m.setAble(next, 7, true));
        }
        due(STATE, m::addMonk);
        due(INDEX, () -> m.setAble(6, 0, true));
        due(INDEX, () -> m.setAble(-1, 0, true));
        due(INDEX, () -> m.setAble(0, 8, true));
        due(INDEX, () -> m.setAble(0, -1, true));
        due(0, () -> m.keeperOf(0));
        due(1, () -> m.keeperOf(7));
        due(INDEX, () -> m.keeperOf(8));
        due(INDEX, () -> m.keeperOf(-1));

        says("A rota gives vigils to monks who can keep them, at most one vigil to each monk and at most one monk to "
                + "each vigil.");
        due("--------", () -> rotaOf(able()));
        due("--------", () -> rotaOf(able("", "", "", "", "", "")));
        due("0-------", () -> rotaOf(able("01234567")));
        due("-------0", () -> rotaOf(able("7", "7", "7", "7", "7", "7")));
        due("012345--", () -> rotaOf(able("01234567", "01234567", "01234567", "01234567", "01234567", "01234567")));
        due("--543210", () -> rotaOf(able("7", "6", "5", "4", "3", "2")));

        says("The best rota is one in which the most vigils are kept; of several, the one in which vigil 0 is kept by "
                + "the monk with the lowest number, where nobody counts as the highest number; of these, the one in "
                + "which vigil 1 is kept by the monk with the lowest number, and so on.");
        // The most vigils, although vigil 0 then has a higher monk.
        due("1------0", () -> rotaOf(able("07", "0")));
        due("12345--0", () -> rotaOf(able("07", "01", "12", "23", "34", "4")));
        // Of several, the lowest monk at vigil 0, although vigil 1 then has a higher one.
        due("02-1----", () -> rotaOf(able("01", "3", "01")));
        due("01------", () -> rotaOf(able("01", "01")));
        // Nobody is higher than monk 5, at vigil 0 as at the last one.
        due("5-------", () -> rotaOf(able("", "", "", "", "", "01234567")));
        due("------5-", () -> rotaOf(able("", "", "", "", "", "67")));
        due("-01-----", () -> rotaOf(able("12", "2")));
        due("-0------", () -> rotaOf(able("1", "1")));
        // Vigils 0 to 5 leave no choice, 6 has the lower monk, and 7 what is left.
        due("0123--45", () -> rotaOf(able("0", "1", "2", "3", "67", "67")));
        due("0123--54", () -> rotaOf(able("0", "1", "2", "3", "7", "67")));
    }

    private static void repairOrder() {
        says("At most 8 repairs are asked for, with the indices 0, 1 and so on.");
        EngineMonastery m = with(3);
        for (int repair = 0; repair < 8; repair++) {
            int next = repair;
            due(INDEX, () -> m.removeRepair(next));
            due(next, () -> m.addRepair(0, 1, 1));
        }
        due(STATE, () -> m.addRepair(0, 1, 1));
        due(INDEX, () -> m.removeRepair(8));
        due(INDEX, () -> m.removeRepair(-1));
        due(8, m::repairCount);
        due(7, () -> m.removeRepair(7));
        due(7, () -> m.addRepair(0, 1, 1));

        says("If all repairs are done one after the other without pauses, the penance for a repair is its penance for "
                + "an hour times the number of hours from now until it is done.");
        EngineMonastery hours = repairs(9, 9);
        due(81, hours::leastPenance);
        hours.pass(48);
        due(81, hours::leastPenance);
        due(81, hours::leastPenanceByTable);
        due(0, () -> repairs().leastPenance());
        due(0, () -> repairs().leastPenanceByTable());
        due(1, () -> repairs(1, 1).leastPenance());
        due(1 * 9 + 10 * 1, () -> repairs(9, 1, 1, 9).leastPenance());
        due(1 * 9 + 10 * 1, () -> repairs(9, 1, 1, 9).leastPenanceByTable());
        // The greatest: eight repairs with 9 and 9.
        EngineMonastery most = repairs(9, 9, 9, 9, 9, 9, 9, 9, 9, 9, 9, 9, 9, 9, 9, 9);
        due(81 * (1 + 2 + 3 + 4 + 5 + 6 + 7 + 8), most::leastPenance);
        due(81 * (1 + 2 + 3 + 4 + 5 + 6 + 7 + 8), most::leastPenanceByTable);

        says("The best order is one in which the sum of the penances for all repairs is smallest: a repair comes "
                + "before another one if its hours divided by its penance for an hour are less than those of the other "
                + "one, as fractions; of equal ones, the repair with the lower index comes first.");
        // As whole numbers 3 / 2 and 1 / 1 would be equal, and so would 7 / 8 and 8 / 9.
        first(1, 3, 2, 1, 1);
        first(0, 1, 1, 3, 2);
        first(1, 8, 9, 7, 8);
        first(0, 7, 8, 8, 9);
        first(1, 9, 1, 1, 9);
        first(0, 2, 4, 1, 2);
        first(0, 1, 2, 2, 4);
        first(0, 9, 9, 1, 1);
        first(0, 1, 1, 9, 9);
        first(2, 9, 8, 8, 7, 1, 1, 5, 5);
        first(7, 9, 2, 9, 2, 9, 2, 9, 2, 9, 2, 9, 2, 9, 2, 8, 2);
    }

    /** Each repair is of an engine of its own as far as there are some, so that the first one is known by it. */
    private static void first(int due, int... hoursAndPenances) {
        EngineMonastery m = with(3, 3, 3, 3);
        int count = hoursAndPenances.length / 2;
        for (int repair = 0; repair < count; repair++) {
            int engine = repair == due ? 3 : repair % 3;
            m.addRepair(engine, hoursAndPenances[2 * repair], hoursAndPenances[2 * repair + 1]);
        }
        due(3, m::repair);
        due(hoursAndPenances[2 * due], m::hour);
        due(count - 1, m::repairCount);
    }

    private static void hours() {
        says("When an hour passes, the present hour, initially 0, increases by 1; then each engine runs, in the order "
                + "of their numbers, by as many strokes as its rate.");
        EngineMonastery m = with(3, 8, 4, 5);
        m.setRate(0, 9);
        m.setRate(1, 1);
        m.setRate(3, 2);
        due(0, m::hour);
        due(0, () -> m.pass(1));
        due(1, m::hour);
        due("0:*012", () -> engineOf(m, 0));
        due("1:0*1234567", () -> engineOf(m, 1));
        due("2:*0123", () -> engineOf(m, 2));
        due("3:01*234", () -> engineOf(m, 3));
        due(3, () -> m.wearOf(0, 2));
        due(3, () -> m.pass(1));
        due(2, m::hour);
        due(ELEMENT, () -> m.knocksIn(1));
        due(3, () -> m.knocksIn(2));
        due(2, () -> m.knockAt(0, 2));
        due(0, () -> new EngineMonastery().pass(48));
    }
}
