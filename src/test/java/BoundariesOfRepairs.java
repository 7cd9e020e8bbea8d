/** The boundary cases of promises 35 to 45. */
final class BoundariesOfRepairs extends Boundaries {
    private BoundariesOfRepairs() {
    }

    static void run() {
        addRepair();
        removeRepair();
        repairCount();
        leastPenance();
        repair();
        penanceDone();
        pass();
        hour();
        knocksIn();
        hourOfKnocks();
    }

    private static void addRepair() {
        under("Promise 35");
        says("Asks for a repair of an engine.");
        EngineMonastery m = with(3, 3, 3, 3);
        for (int engine = 0; engine < 4; engine++) {
            int asked = engine;
            due(0, () -> m.addRepair(asked, 9, 1));
            due(asked, m::repair);
        }
        // One engine may have several.
        due(7, () -> repairs(1, 1, 1, 1, 1, 1, 1, 1, 1, 1, 1, 1, 1, 1).addRepair(0, 1, 1));

        says("- `hours`: the hours that it takes, 1 to 9");
        for (int hours = 1; hours <= 9; hours++) {
            int asked = hours;
            due(asked, () -> repairs(asked, 1).leastPenance());
        }

        says("- `penance`: the penance for each hour until it is done, 1 to 9");
        for (int penance = 1; penance <= 9; penance++) {
            int asked = penance;
            due(asked, () -> repairs(1, asked).leastPenance());
            due(9 * asked, () -> repairs(9, asked).leastPenance());
        }

        says("Returns the index of the repair.");
        EngineMonastery indices = with(3);
        for (int repair = 0; repair < 8; repair++) {
            due(repair, () -> indices.addRepair(0, 9, 1));
        }
        indices.removeRepair(3);
        due(7, () -> indices.addRepair(0, 1, 9));

        says("Throws `IndexOutOfBoundsException` if there is no such engine");
        refusedBeside(0, 1, INDEX, BUSY, (x, engine) -> x.addRepair(engine, 1, 1));
        refusedBeside(0, 3, INDEX, FULL, (x, engine) -> x.addRepair(engine, 9, 9));
        refused(INDEX, EMPTY, x -> x.addRepair(0, 1, 1));
        due(3, () -> BUSY.make().addRepair(1, 1, 1));

        says("Throws `IllegalArgumentException` if a number is out of range");
        refusedBeside(1, 9, ARGUMENT, BUSY, (x, hours) -> x.addRepair(0, hours, 1));
        refusedBeside(1, 9, ARGUMENT, BUSY, (x, penance) -> x.addRepair(0, 1, penance));
        refusedBeside(1, 9, ARGUMENT, BUSY, (x, both) -> x.addRepair(0, both, both));
        refusedBeside(1, 9, ARGUMENT, FULL, (x, hours) -> x.addRepair(3, hours, 9));
        refusedBeside(1, 9, ARGUMENT, FULL, (x, penance) -> x.addRepair(3, 9, penance));

        says("Throws `IllegalStateException` if there are 8 repairs");
        refused(STATE, FULL, x -> x.addRepair(0, 1, 1));
        refused(STATE, FULL, x -> x.addRepair(3, 9, 9));
        Scene seven = () -> repairs(1, 1, 2, 2, 3, 3, 4, 4, 5, 5, 6, 6, 7, 7);
        due(7, () -> seven.make().addRepair(0, 9, 9));
        Scene full = () -> {
            EngineMonastery x = seven.make();
            x.addRepair(0, 9, 9);
            return x;
        };
        refused(STATE, full, x -> x.addRepair(0, 1, 1));
    }

    private static void removeRepair() {
        under("Promise 36");
        says("Withdraws a repair.");
        // With the penances 1, 2 and 4 for an hour the sums tell which repairs are left.
        due(4 + 2 * 2 + 3 * 1, () -> three().leastPenance());
        due(4 + 2 * 2, () -> without(0).leastPenance());
        due(4 + 2 * 1, () -> without(1).leastPenance());
        due(2 + 2 * 1, () -> without(2).leastPenance());
        due(0, () -> without(0).hour());
        due(0, () -> without(2).penanceDone());
        due(0, () -> repairs(1, 1).removeRepair(0));

        says("The indices of the later ones decrease by 1.");
        EngineMonastery first = without(0);
        first.removeRepair(1);
        due(2, first::leastPenance);
        EngineMonastery middle = without(1);
        middle.removeRepair(1);
        due(1, middle::leastPenance);
        EngineMonastery last = without(2);
        last.removeRepair(1);
        due(1, last::leastPenance);
        // Of equal fractions the lower index comes first, also when it has come down.
        EngineMonastery equal = with(3, 3, 3);
        equal.addRepair(0, 9, 1);
        equal.addRepair(1, 2, 2);
        equal.addRepair(2, 1, 1);
        equal.removeRepair(0);
        equal.addRepair(0, 3, 3);
        due(1, equal::repair);
        due(2, equal::repair);
        due(0, equal::repair);

        says("Returns the number of repairs after the call.");
        EngineMonastery all = repairs(1, 1, 1, 1, 1, 1, 1, 1, 1, 1, 1, 1, 1, 1, 1, 1);
        for (int left = 7; left >= 0; left--) {
            int removed = left / 2;
            due(left, () -> all.removeRepair(removed));
        }
        due(INDEX, () -> all.removeRepair(0));

        says("Throws `IndexOutOfBoundsException` if there is no such repair");
        refused(INDEX, EMPTY, x -> x.removeRepair(0));
        refused(INDEX, DRY, x -> x.removeRepair(0));
        refusedBeside(0, 0, INDEX, () -> repairs(1, 1), EngineMonastery::removeRepair);
        refusedBeside(0, 2, INDEX, BUSY, EngineMonastery::removeRepair);
        refusedBeside(0, 7, INDEX, FULL, EngineMonastery::removeRepair);
        due(7, () -> FULL.make().removeRepair(7));
        due(7, () -> FULL.make().removeRepair(0));
    }

    private static EngineMonastery three() {
        return repairs(1, 1, 1, 2, 1, 4);
    }

    private static EngineMonastery without(int repair) {
        EngineMonastery m = three();
        m.removeRepair(repair);
        return m;
    }

    private static void repairCount() {
        under("Promise 37");
        says("Returns the number of repairs that are asked for.");
        EngineMonastery m = with(3);
        for (int count = 0; count < 8; count++) {
            due(count, m::repairCount);
            m.addRepair(0, 1, 1);
        }
        due(8, m::repairCount);
        m.repair();
        due(7, m::repairCount);
        m.removeRepair(6);
        due(6, m::repairCount);
        m.undo();
        m.undo();
        due(8, m::repairCount);
    }

    /** The least penance, and the hours and the penance for an hour of each repair. */
    private static final int[][] PENANCES = {{0}, {1, 1, 1}, {81, 9, 9}, {19, 9, 1, 1, 9}, {19, 1, 9, 9, 1},
        {2 * 2 + 4 * 2, 2, 2, 2, 2}, {1 + 2 + 3 + 4 + 5 + 6 + 7 + 8, 1, 1, 1, 1, 1, 1, 1, 1, 1, 1, 1, 1, 1, 1, 1, 1},
        {81 * 36, 9, 9, 9, 9, 9, 9, 9, 9, 9, 9, 9, 9, 9, 9, 9, 9},
        // 3 / 2 behind 1 / 1, which whole numbers would not tell: 1 + 4 * 2 and not 3 * 2 + 4.
        {9, 3, 2, 1, 1}, {9, 1, 1, 3, 2}, {7 * 8 + 15 * 9, 8, 9, 7, 8}};

    private static void leastPenance() {
        under("Promise 38");
        says("Returns the smallest penance for all repairs, found with a queue of repairs.");
        for (int[] row : PENANCES) {
            due(row[0], () -> asked(row).leastPenance());
        }

        under("Promise 39");
        says("Returns the same number as leastPenance(), found with a table of the sets of repairs.");
        for (int[] row : PENANCES) {
            due(row[0], () -> asked(row).leastPenanceByTable());
        }
    }

    private static EngineMonastery asked(int[] row) {
        EngineMonastery m = with(3);
        for (int place = 1; place + 1 < row.length; place += 2) {
            m.addRepair(0, row[place], row[place + 1]);
        }
        return m;
    }

    private static void repair() {
        under("Promise 40");
        says("Does the first repair of the best order: its hours pass, and its penance for these hours, together with "
                + "that of all other repairs for them, is done.");
        for (int hours = 1; hours <= 9; hours += 8) {
            EngineMonastery one = repairs(hours, 9);
            int passed = hours;
            one.repair();
            due(passed, one::hour);
            due(9 * passed, one::penanceDone);
        }
        EngineMonastery m = with(3, 4);
        m.setRate(0, 6);
        m.setRate(1, 1);
        m.addRepair(0, 9, 1);
        m.addRepair(1, 3, 2);
        m.addRepair(0, 9, 9);
        due(0, m::repair);
        due(9, m::hour);
        due(9 * (1 + 2 + 9), m::penanceDone);
        // 54 strokes, of which 15 burned oil; the knocks are 3 in hour 3, and 6 in each hour from then on.
        due(24, () -> m.knockCount(0));
        due(3, () -> m.knocksIn(3));
        due(6, () -> m.knocksIn(9));
        due(ELEMENT, () -> m.knocksIn(10));
        due(3, () -> m.wearOf(1, 0));
        due(1, m::repair);
        due(12, m::hour);
        due(108 + 3 * (1 + 2), m::penanceDone);
        EngineMonastery eight = repairs(9, 9, 9, 9, 9, 9, 9, 9, 9, 9, 9, 9, 9, 9, 9, 9);
        for (int count = 8; count > 0; count--) {
            eight.repair();
        }
        due(81 * 36, eight::penanceDone);
        due(72, eight::hour);
        due(STATE, eight::repair);

        says("Then the wear of all cylinders of its engine becomes 0, and the repair is not asked for any more.");
        EngineMonastery wear = with(8, 8);
        wear.run(0, 8);
        wear.run(1, 16);
        wear.setRate(0, 8);
        wear.setRate(1, 8);
        wear.addRepair(1, 1, 1);
        wear.addRepair(1, 2, 1);
        due(1, wear::repair);
        for (int cylinder = 0; cylinder < 8; cylinder++) {
            int asked = cylinder;
            due(2, () -> wear.wearOf(0, asked));
            due(0, () -> wear.wearOf(1, asked));
            due(3, () -> wear.oilOf(0, asked));
            due(2, () -> wear.oilOf(1, asked));
        }
        due(1, wear::repairCount);
        due(2, wear::leastPenance);
        due(1, wear::repair);
        due(0, wear::repairCount);
        due(0, wear::leastPenance);

        says("Throws `IllegalStateException` if no repair is asked for");
        refused(STATE, EMPTY, EngineMonastery::repair);
        refused(STATE, DRY, EngineMonastery::repair);
        Scene done = () -> {
            EngineMonastery x = repairs(1, 1);
            x.repair();
            return x;
        };
        refused(STATE, done, EngineMonastery::repair);
        due(0, () -> repairs(1, 1).repair());
    }

    private static void penanceDone() {
        under("Promise 41");
        says("Returns the penance that has been done so far.");
        EngineMonastery m = repairs(1, 1, 1, 2);
        due(0, m::penanceDone);
        m.pass(48);
        due(0, m::penanceDone);
        m.repair();
        due(3, m::penanceDone);
        m.removeRepair(0);
        due(3, m::penanceDone);
        m.undo();
        m.undo();
        due(0, m::penanceDone);
        m.repair();
        m.repair();
        due(4, m::penanceDone);
    }

    private static void pass() {
        under("Promise 42");
        says("Lets hours pass.");
        EngineMonastery m = with(8);
        m.setRate(0, 1);
        m.pass(1);
        due("0:0*1234567", () -> engineOf(m, 0));
        m.pass(7);
        due("0:*01234567", () -> engineOf(m, 0));
        due(8, m::hour);

        says("- `hours`: the number of hours, 1 to 48");
        for (int hours = 1; hours <= 48; hours++) {
            EngineMonastery one = with(3);
            int asked = hours;
            due(0, () -> one.pass(asked));
            due(asked, one::hour);
        }

        says("Returns the number of knocks in these hours.");
        EngineMonastery knocks = with(3, 3);
        knocks.setRate(0, 5);
        knocks.setRate(1, 1);
        due(0, () -> knocks.pass(3));
        due(5, () -> knocks.pass(1));
        due(11 * 5, () -> knocks.pass(11));
        due(6, () -> knocks.pass(1));
        due(48 * 6, () -> knocks.pass(48));
        knocks.run(0, 9);
        due(6, () -> knocks.pass(1));
        EngineMonastery most = with(8, 8, 8, 8);
        for (int engine = 0; engine < 4; engine++) {
            most.setRate(engine, 9);
            most.run(engine, 40);
        }
        due(48 * 36, () -> most.pass(48));

        says("Throws `IllegalArgumentException` if the number is out of range");
        refusedBeside(1, 48, ARGUMENT, EMPTY, EngineMonastery::pass);
        refusedBeside(1, 48, ARGUMENT, BUSY, EngineMonastery::pass);
        refusedBeside(1, 48, ARGUMENT, FULL, EngineMonastery::pass);
    }

    private static void hour() {
        under("Promise 43");
        says("Returns the number of hours that have passed.");
        EngineMonastery m = new EngineMonastery();
        due(0, m::hour);
        m.pass(1);
        due(1, m::hour);
        m.pass(48);
        due(49, m::hour);
        m.undo();
        due(1, m::hour);
        m.addEngine(3);
        m.run(0, 99);
        due(1, m::hour);
    }

    private static void knocksIn() {
        under("Promise 44");
        says("Returns the number of knocks in an hour.");
        EngineMonastery m = with(3, 3);
        m.run(0, 16);
        due(1, () -> m.knocksIn(0));
        m.run(1, 99);
        due(85, () -> m.knocksIn(0));
        m.pass(5);
        m.run(0, 2);
        due(2, () -> m.knocksIn(5));
        due(85, () -> m.knocksIn(0));

        says("Throws `NoSuchElementException` if no knocks in this hour are kept");
        refused(ELEMENT, EMPTY, x -> x.knocksIn(0));
        refused(ELEMENT, DRY, x -> x.knocksIn(0));
        // FULL has knocked in the hours 0 to 12, of which hour 0 is not kept.
        refusedBeside(1, 12, ELEMENT, FULL, EngineMonastery::knocksIn);
        due(10, () -> FULL.make().knocksIn(1));
        due(10, () -> FULL.make().knocksIn(12));
        Scene gap = () -> {
            EngineMonastery x = with(3);
            x.run(0, 16);
            x.pass(2);
            x.run(0, 1);
            return x;
        };
        refused(ELEMENT, gap, x -> x.knocksIn(1));
        refusedBeside(0, 2, ELEMENT, gap, EngineMonastery::knocksIn);
        due(1, () -> gap.make().knocksIn(0));
        due(1, () -> gap.make().knocksIn(2));
    }

    private static void hourOfKnocks() {
        under("Promise 45");
        says("Returns the first hour at or after a given one with kept knocks.");
        EngineMonastery m = with(3);
        m.pass(2);
        m.run(0, 16);
        m.pass(3);
        m.run(0, 1);
        int[][] fromAndHour = {{Integer.MIN_VALUE, 2}, {-1, 2}, {0, 2}, {1, 2}, {2, 2}, {3, 5}, {4, 5}, {5, 5}};
        for (int[] row : fromAndHour) {
            due(row[1], () -> m.hourOfKnocks(row[0]));
        }
        due(ELEMENT, () -> m.hourOfKnocks(6));
        // Hour 0 is not kept any more, so hour 1 is the first one.
        due(1, () -> FULL.make().hourOfKnocks(0));
        due(12, () -> FULL.make().hourOfKnocks(12));

        says("Throws `NoSuchElementException` if there is no such hour");
        refused(ELEMENT, EMPTY, x -> x.hourOfKnocks(0));
        refused(ELEMENT, EMPTY, x -> x.hourOfKnocks(Integer.MIN_VALUE));
        refused(ELEMENT, DRY, x -> x.hourOfKnocks(-1));
        refused(ELEMENT, FULL, x -> x.hourOfKnocks(13));
        refused(ELEMENT, FULL, x -> x.hourOfKnocks(Integer.MAX_VALUE));
        due(0, () -> knocked("1").hourOfKnocks(0));
        refused(ELEMENT, () -> knocked("1"), x -> x.hourOfKnocks(1));
    }
}
