/** The boundary cases of promises 15 to 29. */
final class BoundariesOfOil extends Boundaries {
    private static final String NO_ENGINE = "Throws `IndexOutOfBoundsException` if there is no such engine";
    private static final String NO_CYLINDER =
            "Throws `IndexOutOfBoundsException` if there is no such engine or no such cylinder";
    private static final String OUT_OF_RANGE = "Throws `IllegalArgumentException` if the number is out of range";
    private static final String NO_ENGINES = "Throws `NoSuchElementException` if there are no engines";

    private BoundariesOfOil() {
    }

    static void run() {
        runEngine();
        oil();
        oilDriest();
        leastOilAfter();
        leastOilAfterByGiving();
        buyOil();
        oilOf();
        wearOf();
        allOil();
        allOilByAccounts();
        knockCount();
        knockAt();
        knockPeriod();
        knockPeriodByTrying();
        engineAtRank();
    }

    private static void runEngine() {
        under("Promise 15");
        says("Lets an engine run by some strokes.");
        EngineMonastery m = with(3, 8);
        m.run(1, 9);
        due("1:0*1234567", () -> engineOf(m, 1));
        due("0:*012", () -> engineOf(m, 0));
        due(3, () -> m.oilOf(1, 0));
        due(2, () -> m.wearOf(1, 0));
        due(4, () -> m.oilOf(1, 7));
        due(0, m::hour);

        says("- `strokes`: the number of strokes, 1 to 99");
        due(0, () -> with(3).run(0, 1));
        due(84, () -> with(3).run(0, 99));
        due(59, () -> with(8).run(0, 99));

        says("Returns the number of knocks.");
        due(0, () -> with(3).run(0, 15));
        due(1, () -> with(3).run(0, 16));
        EngineMonastery dry = with(3);
        dry.run(0, 15);
        due(99, () -> dry.run(0, 99));
        due(1, () -> dry.run(0, 1));

        says(NO_ENGINE);
        refusedBeside(0, 1, INDEX, BUSY, (x, engine) -> x.run(engine, 1));
        refusedBeside(0, 3, INDEX, FULL, (x, engine) -> x.run(engine, 99));
        refused(INDEX, EMPTY, x -> x.run(0, 1));

        says(OUT_OF_RANGE);
        refusedBeside(1, 99, ARGUMENT, BUSY, (x, strokes) -> x.run(1, strokes));
        refusedBeside(1, 99, ARGUMENT, DRY, (x, strokes) -> x.run(0, strokes));
    }

    private static void oil() {
        under("Promise 16");
        says("Gives oil to a cylinder.");
        EngineMonastery m = with(3, 4);
        m.oil(1, 3, 7);
        due(12, () -> m.oilOf(1, 3));
        due(5, () -> m.oilOf(1, 2));
        due(5, () -> m.oilOf(0, 0));
        due(20 + 15 + 20, m::allOil);
        due(STATE, () -> m.oil(0, 0, 14));
        due(18, () -> m.oil(0, 0, 13));

        says("- `units`: the number of units, 1 to 99");
        due(6, () -> with(3).oil(0, 2, 1));
        EngineMonastery rich = with(3);
        rich.buyOil(79);
        due(104, () -> rich.oil(0, 0, 99));
        due(STATE, () -> rich.oil(0, 0, 1));

        says("Returns the oil of the cylinder after the call.");
        due(7, () -> with(3).oil(0, 0, 2));
        EngineMonastery dry = with(3);
        dry.run(0, 15);
        due(1, () -> dry.oil(0, 2, 1));
        due(2, () -> dry.oil(0, 2, 1));

        says(NO_CYLINDER);
        refusedBeside(0, 1, INDEX, BUSY, (x, engine) -> x.oil(engine, 0, 1));
        refusedBeside(0, 3, INDEX, BUSY, (x, cylinder) -> x.oil(0, cylinder, 1));
        refusedBeside(0, 2, INDEX, BUSY, (x, cylinder) -> x.oil(1, cylinder, 1));
        refusedBeside(0, 3, INDEX, FULL, (x, engine) -> x.oil(engine, 0, 1));
        refusedBeside(0, 7, INDEX, FULL, (x, cylinder) -> x.oil(3, cylinder, 1));
        refused(INDEX, EMPTY, x -> x.oil(0, 0, 1));
        due(1, () -> BUSY.make().oil(1, 2, 1));

        says(OUT_OF_RANGE);
        refusedBeside(1, 99, ARGUMENT, BUSY, (x, units) -> x.oil(0, 0, units));
        refusedBeside(1, 99, ARGUMENT, FULL, (x, units) -> x.oil(3, 7, units));
        refusedBeside(1, 99, ARGUMENT, DRY, (x, units) -> x.oil(0, 0, units));

        says("Throws `IllegalStateException` if the store holds less");
        due(25, () -> with(3).oil(0, 0, 20));
        refused(STATE, () -> with(3), x -> x.oil(0, 0, 21));
        refused(STATE, () -> with(3), x -> x.oil(0, 0, 99));
        refused(STATE, DRY, x -> x.oil(0, 0, 1));
        refused(STATE, BUSY, x -> x.oil(1, 0, 44));
        due(43, () -> BUSY.make().oil(1, 0, 43));
    }

    private static void oilDriest() {
        under("Promise 17");
        says("Gives units of oil one after the other, each one to the cylinder with the least oil; of several to that "
                + "of the lowest engine, and of this to the lowest one.");
        EngineMonastery even = with(3, 3);
        String[] due = {"6 5 5 5 5 5", "6 6 5 5 5 5", "6 6 6 5 5 5", "6 6 6 6 5 5", "6 6 6 6 6 5", "6 6 6 6 6 6",
            "7 6 6 6 6 6"};
        for (String oils : due) {
            even.oilDriest(1);
            due(oils, () -> oilsOf(even));
        }
        EngineMonastery once = with(3, 3);
        once.oilDriest(7);
        due("7 6 6 6 6 6", () -> oilsOf(once));
        // The least oil comes before the lowest engine, and the lowest engine before the lowest cylinder.
        EngineMonastery m = with(3, 3);
        m.run(0, 2);
        m.exchange(1, 0, 2);
        m.run(1, 4);
        due("4 4 5 4 4 3", () -> oilsOf(m));
        m.oilDriest(1);
        due("4 4 5 4 4 4", () -> oilsOf(m));
        m.oilDriest(2);
        due("5 5 5 4 4 4", () -> oilsOf(m));
        m.oilDriest(3);
        due("5 5 5 5 5 5", () -> oilsOf(m));
        // In the order of the numbers of the cylinders, not of the places.
        EngineMonastery swapped = ordered(2, 1, 0);
        swapped.oilDriest(1);
        due("6 5 5", () -> oilsOf(swapped));

        says("- `units`: the number of units, 1 to 99");
        due(5, () -> with(3).oilDriest(1));
        EngineMonastery rich = with(3);
        rich.buyOil(79);
        due(5 + 33, () -> rich.oilDriest(99));
        due(STATE, () -> rich.oilDriest(1));

        says("Returns the least oil of a cylinder after the call.");
        EngineMonastery dry = with(3);
        dry.run(0, 15);
        due(0, () -> dry.oilDriest(2));
        due(1, () -> dry.oilDriest(1));
        due(1, () -> dry.oilDriest(2));
        due(2, () -> dry.oilDriest(1));

        says(OUT_OF_RANGE);
        refusedBeside(1, 99, ARGUMENT, BUSY, EngineMonastery::oilDriest);
        refusedBeside(1, 99, ARGUMENT, FULL, EngineMonastery::oilDriest);
        refusedBeside(1, 99, ARGUMENT, EMPTY, EngineMonastery::oilDriest);

        says("Throws `IllegalStateException` if the store holds less, or there are no engines");
        due(11, () -> with(3).oilDriest(20));
        refused(STATE, () -> with(3), x -> x.oilDriest(21));
        refused(STATE, DRY, x -> x.oilDriest(1));
        refused(STATE, BUSY, x -> x.oilDriest(44));
        refused(STATE, EMPTY, x -> x.oilDriest(1));
        refused(STATE, EMPTY, x -> x.oilDriest(20));
        refused(STATE, EMPTY, x -> x.oilDriest(21));
    }

    private static String oilsOf(EngineMonastery m) {
        StringBuilder oils = new StringBuilder();
        for (int engine = 0; engine < m.engineCount(); engine++) {
            for (int cylinder = 0; cylinder < m.cylinderCount(engine); cylinder++) {
                oils.append(oils.length() == 0 ? "" : " ").append(m.oilOf(engine, cylinder));
            }
        }
        return oils.toString();
    }

    /** The oil 3, 3, 4, 5, 5, 14, 5: two to 4, three to 5, then six at a time up to 14, then all seven. */
    private static final int[][] LEAST_AFTER = {{0, 3}, {1, 3}, {2, 4}, {3, 4}, {4, 4}, {5, 5}, {10, 5}, {11, 6},
        {58, 13}, {59, 14}, {65, 14}, {66, 15}, {998, 148}, {999, 148}};

    private static EngineMonastery uneven() {
        EngineMonastery m = with(3, 4);
        m.run(0, 5);
        m.oil(1, 2, 9);
        return m;
    }

    /** 32 cylinders with 36, 35 and so on down to 5 units: 496 units fill all up to 36. */
    private static final int[][] LEAST_OF_MANY_AFTER = {{0, 5}, {1, 6}, {2, 6}, {3, 7}, {495, 35}, {496, 36}, {527, 36},
        {528, 37}, {999, 51}};

    private static EngineMonastery allDifferent() {
        EngineMonastery m = with(8, 8, 8, 8);
        for (int units = 31; units > 0; units--) {
            int spot = 31 - units;
            m.buyOil(units);
            m.oil(spot / 8, spot % 8, units);
        }
        return m;
    }

    private static void leastOilAfter() {
        under("Promise 18");
        says("Returns the least oil of a cylinder if some units were given by oilDriest(), however much the store "
                + "holds; found by filling up from the least oil.");
        EngineMonastery m = uneven();
        for (int[] row : LEAST_AFTER) {
            due(row[1], () -> m.leastOilAfter(row[0]));
        }
        EngineMonastery many = allDifferent();
        for (int[] row : LEAST_OF_MANY_AFTER) {
            due(row[1], () -> many.leastOilAfter(row[0]));
        }
        alike(11, x -> x.leastOilAfter(20), x -> x.oilDriest(20));
        due(5, () -> DRY.make().leastOilAfter(0));
        due(5, () -> DRY.make().leastOilAfter(1));
        due(6, () -> DRY.make().leastOilAfter(2));
        due(344, () -> DRY.make().leastOilAfter(999));

        says("- `units`: the number of units, 0 to 999");
        due(5, () -> with(3).leastOilAfter(0));
        due(5 + 333, () -> with(3).leastOilAfter(999));
        due(5 + 332, () -> with(3).leastOilAfter(998));

        says(OUT_OF_RANGE);
        refusedBeside(0, 999, ARGUMENT, BUSY, EngineMonastery::leastOilAfter);
        refusedBeside(0, 999, ARGUMENT, EMPTY, EngineMonastery::leastOilAfter);

        says(NO_ENGINES);
        refused(ELEMENT, EMPTY, x -> x.leastOilAfter(0));
        refused(ELEMENT, EMPTY, x -> x.leastOilAfter(999));
        due(0, () -> dryOne().leastOilAfter(2));
        due(1, () -> dryOne().leastOilAfter(3));
    }

    /** Both answer this on a new engine with three cylinders. */
    private static void alike(int due, Act one, Act other) {
        due(due, () -> one.on(with(3)));
        due(due, () -> other.on(with(3)));
    }

    private static EngineMonastery dryOne() {
        EngineMonastery m = with(3);
        m.run(0, 15);
        return m;
    }

    private static void leastOilAfterByGiving() {
        under("Promise 19");
        says("Returns the same number as leastOilAfter(), found by giving unit after unit.");
        EngineMonastery m = uneven();
        for (int[] row : LEAST_AFTER) {
            due(row[1], () -> m.leastOilAfterByGiving(row[0]));
        }
        EngineMonastery many = allDifferent();
        for (int[] row : LEAST_OF_MANY_AFTER) {
            due(row[1], () -> many.leastOilAfterByGiving(row[0]));
        }
        alike(11, x -> x.leastOilAfterByGiving(20), x -> x.oilDriest(20));
        due(true, () -> Watch.changesNothing(BUSY, x -> x.leastOilAfterByGiving(999)));
        due(true, () -> Watch.changesNothing(FULL, x -> x.leastOilAfterByGiving(999)));

        says("- `units`: the number of units, 0 to 999");
        due(5, () -> with(3).leastOilAfterByGiving(0));
        due(5 + 333, () -> with(3).leastOilAfterByGiving(999));
        due(5 + 332, () -> with(3).leastOilAfterByGiving(998));

        says(OUT_OF_RANGE);
        refusedBeside(0, 999, ARGUMENT, BUSY, EngineMonastery::leastOilAfterByGiving);
        refusedBeside(0, 999, ARGUMENT, EMPTY, EngineMonastery::leastOilAfterByGiving);

        says(NO_ENGINES);
        refused(ELEMENT, EMPTY, x -> x.leastOilAfterByGiving(0));
        refused(ELEMENT, EMPTY, x -> x.leastOilAfterByGiving(999));
        due(0, () -> dryOne().leastOilAfterByGiving(2));
        due(1, () -> dryOne().leastOilAfterByGiving(3));
    }

    private static void buyOil() {
        under("Promise 20");
        says("Buys oil.");
        due(21, () -> new EngineMonastery().buyOil(1));
        due(1, () -> DRY.make().buyOil(1));
        EngineMonastery m = with(3);
        m.buyOil(5);
        due(40, m::allOil);
        due(5, () -> m.oilOf(0, 0));

        says("- `units`: the number of units, 1 to 99");
        allowed(1, 1, 21, EMPTY, EngineMonastery::buyOil);
        allowed(99, 99, 119, EMPTY, EngineMonastery::buyOil);
        allowed(98, 98, 118, EMPTY, EngineMonastery::buyOil);

        says("Returns the oil in the store after the call.");
        EngineMonastery one = with(3);
        one.oil(0, 0, 7);
        due(13 + 4, () -> one.buyOil(4));
        due(17 + 4, () -> one.buyOil(4));

        says(OUT_OF_RANGE);
        refusedBeside(1, 99, ARGUMENT, EMPTY, EngineMonastery::buyOil);
        refusedBeside(1, 99, ARGUMENT, BUSY, EngineMonastery::buyOil);
        refusedBeside(1, 99, ARGUMENT, FULL, EngineMonastery::buyOil);

        says("Throws `IllegalStateException` if the store would hold more than 500 units");
        refused(STATE, FULL, x -> x.buyOil(1));
        refused(STATE, FULL, x -> x.buyOil(99));
        Scene nearly = () -> {
            EngineMonastery x = FULL.make();
            x.oil(0, 0, 10);
            return x;
        };
        refused(STATE, nearly, x -> x.buyOil(11));
        due(500, () -> nearly.make().buyOil(10));
        due(499, () -> nearly.make().buyOil(9));
    }

    private static void oilOf() {
        under("Promise 21");
        says("Returns the oil of a cylinder.");
        EngineMonastery m = with(8, 3);
        m.run(1, 14);
        due(0, () -> m.oilOf(1, 0));
        due(0, () -> m.oilOf(1, 1));
        due(1, () -> m.oilOf(1, 2));
        due(5, () -> m.oilOf(0, 7));
        m.oil(0, 7, 20);
        due(25, () -> m.oilOf(0, 7));

        says(NO_CYLINDER);
        refusedBeside(0, 1, INDEX, BUSY, (x, engine) -> x.oilOf(engine, 0));
        refusedBeside(0, 3, INDEX, BUSY, (x, cylinder) -> x.oilOf(0, cylinder));
        refusedBeside(0, 2, INDEX, BUSY, (x, cylinder) -> x.oilOf(1, cylinder));
        refusedBeside(0, 3, INDEX, FULL, (x, engine) -> x.oilOf(engine, 7));
        refusedBeside(0, 7, INDEX, FULL, (x, cylinder) -> x.oilOf(3, cylinder));
        refused(INDEX, EMPTY, x -> x.oilOf(0, 0));
    }

    private static void wearOf() {
        under("Promise 22");
        says("Returns the wear of a cylinder.");
        EngineMonastery m = with(8, 3);
        m.run(1, 14);
        due(5, () -> m.wearOf(1, 0));
        due(4, () -> m.wearOf(1, 2));
        due(0, () -> m.wearOf(0, 7));
        m.run(1, 99);
        due(5, () -> m.wearOf(1, 0));
        due(5, () -> m.wearOf(1, 2));

        says(NO_CYLINDER);
        refusedBeside(0, 1, INDEX, BUSY, (x, engine) -> x.wearOf(engine, 0));
        refusedBeside(0, 3, INDEX, BUSY, (x, cylinder) -> x.wearOf(0, cylinder));
        refusedBeside(0, 2, INDEX, BUSY, (x, cylinder) -> x.wearOf(1, cylinder));
        refusedBeside(0, 3, INDEX, FULL, (x, engine) -> x.wearOf(engine, 7));
        refusedBeside(0, 7, INDEX, FULL, (x, cylinder) -> x.wearOf(3, cylinder));
        refused(INDEX, EMPTY, x -> x.wearOf(0, 0));
    }

    private static void allOil() {
        under("Promise 23");
        says("Returns the oil in the store and in all cylinders.");
        due(20, () -> new EngineMonastery().allOil());
        due(20 + 15, () -> with(3).allOil());
        due(20 + 5 * 32, () -> with(8, 8, 8, 8).allOil());
        due(500, () -> FULL.make().allOil());
        due(35, () -> DRY.make().allOil());
        EngineMonastery m = DRY.make();
        m.run(0, 60);
        due(5, m::allOil);
    }

    private static void allOilByAccounts() {
        under("Promise 24");
        says("Returns the same number as allOil(): the units that were there initially, those in the cylinders of "
                + "added engines included, and the units that were bought, minus those that were burned.");
        due(20, () -> new EngineMonastery().allOilByAccounts());
        due(20 + 15, () -> with(3).allOilByAccounts());
        due(20 + 5 * 32, () -> with(8, 8, 8, 8).allOilByAccounts());
        due(500, () -> FULL.make().allOilByAccounts());
        due(35, () -> DRY.make().allOilByAccounts());
        EngineMonastery m = with(3);
        m.buyOil(99);
        due(134, m::allOilByAccounts);
        m.oilDriest(99);
        m.oil(0, 0, 20);
        due(134, m::allOilByAccounts);
        // A knock burns nothing.
        m.run(0, 99);
        m.run(0, 99);
        due(m.allOil(), m::allOilByAccounts);
        m.undo();
        m.undo();
        due(134, m::allOilByAccounts);
        m.setRate(0, 9);
        m.addRepair(0, 2, 1);
        m.repair();
        due(134 - 18, m::allOilByAccounts);
        m.save();
        m.addEngine(8);
        due(134 - 18 + 40, m::allOilByAccounts);
        m.restore();
        due(134 - 18, m::allOilByAccounts);
        due(STATE, () -> executed(m, "buy 9;engine 3;fill 99;repair"));
        due(134 - 18, m::allOilByAccounts);
    }

    private static void knockCount() {
        under("Promise 25");
        says("Returns the number of knocks of an engine that are kept.");
        EngineMonastery m = with(3, 3);
        m.run(1, 16);
        due(0, () -> m.knockCount(0));
        due(1, () -> m.knockCount(1));

        says("Returns the number of knocks, 0 to 24.");
        int[][] strokesAndKnocks = {{15, 0}, {16, 1}, {38, 23}, {39, 24}, {40, 24}, {99, 24}};
        for (int[] row : strokesAndKnocks) {
            EngineMonastery one = with(3);
            one.run(0, row[0]);
            due(row[1], () -> one.knockCount(0));
        }
        due(0, () -> with(3).knockCount(0));

        says(NO_ENGINE);
        refusedBeside(0, 1, INDEX, BUSY, EngineMonastery::knockCount);
        refusedBeside(0, 3, INDEX, FULL, EngineMonastery::knockCount);
        refused(INDEX, EMPTY, x -> x.knockCount(0));
        due(24, () -> FULL.make().knockCount(3));
    }

    private static void knockAt() {
        under("Promise 26");
        says("Returns the cylinder of a kept knock.");
        EngineMonastery m = knocked("3021");
        due(3, () -> m.knockAt(0, 0));
        due(0, () -> m.knockAt(0, 1));
        due(2, () -> m.knockAt(0, 2));
        due(1, () -> m.knockAt(0, 3));

        says("- `place`: the place, from 0 for the oldest kept knock");
        EngineMonastery ring = knocked("0" + "1" + "2".repeat(22) + "3");
        due(1, () -> ring.knockAt(0, 0));
        due(2, () -> ring.knockAt(0, 1));
        due(2, () -> ring.knockAt(0, 22));
        due(3, () -> ring.knockAt(0, 23));
        EngineMonastery full = knocked("0" + "1".repeat(23));
        due(0, () -> full.knockAt(0, 0));
        due(1, () -> full.knockAt(0, 23));

        says(NO_ENGINE);
        refusedBeside(0, 1, INDEX, BUSY, (x, engine) -> x.knockAt(engine, 0));
        refusedBeside(0, 3, INDEX, FULL, (x, engine) -> x.knockAt(engine, 23));
        refused(INDEX, EMPTY, x -> x.knockAt(0, 0));

        says("Throws `NoSuchElementException` if there is no such place");
        refused(ELEMENT, DRY, x -> x.knockAt(0, 0));
        refusedBeside(0, 0, ELEMENT, () -> knocked("2"), (x, place) -> x.knockAt(0, place));
        refusedBeside(0, 22, ELEMENT, () -> knocked("1".repeat(23)), (x, place) -> x.knockAt(0, place));
        refusedBeside(0, 23, ELEMENT, () -> knocked("1".repeat(24)), (x, place) -> x.knockAt(0, place));
        refusedBeside(0, 23, ELEMENT, FULL, (x, place) -> x.knockAt(3, place));
        due(2, () -> knocked("2").knockAt(0, 0));
    }

    private static void knockPeriod() {
        under("Promise 27");
        says("Returns the period of the kept knocks of an engine, found by the lengths of their borders.");
        due(1, () -> knocked("3").knockPeriod(0));
        due(4, () -> knocked("0103").knockPeriod(0));
        due(24, () -> knocked("1" + "0".repeat(23)).knockPeriod(0));
        due(24, () -> knocked("0".repeat(23) + "1").knockPeriod(0));
        due(24, () -> knocked("3" + "0".repeat(23) + "1").knockPeriod(0));
        due(23, () -> knocked("0" + "1".repeat(22) + "0").knockPeriod(0));
        due(1, () -> knocked("3" + "0".repeat(24)).knockPeriod(0));
        due(2, () -> knocked("3" + "01".repeat(12)).knockPeriod(0));
        // The longest border falls back through shorter ones before it grows again.
        due(9, () -> knocked("00100100" + "20010010").knockPeriod(0));
        due(5, () -> knocked("0010000100").knockPeriod(0));
        due(3, () -> knocked("0010010").knockPeriod(0));

        says(NO_ENGINE);
        refusedBeside(0, 1, INDEX, BUSY, EngineMonastery::knockPeriod);
        refusedBeside(0, 3, INDEX, FULL, EngineMonastery::knockPeriod);
        refused(INDEX, EMPTY, x -> x.knockPeriod(0));

        says("Throws `NoSuchElementException` if no knock of this engine is kept");
        refused(ELEMENT, DRY, x -> x.knockPeriod(0));
        Scene other = () -> {
            EngineMonastery m = with(3, 3);
            m.run(1, 16);
            return m;
        };
        refused(ELEMENT, other, x -> x.knockPeriod(0));
        due(1, () -> other.make().knockPeriod(1));
    }

    private static void knockPeriodByTrying() {
        under("Promise 28");
        says("Returns the same number as knockPeriod(), found by trying all periods.");
        due(1, () -> knocked("3").knockPeriodByTrying(0));
        due(4, () -> knocked("0103").knockPeriodByTrying(0));
        due(24, () -> knocked("1" + "0".repeat(23)).knockPeriodByTrying(0));
        due(24, () -> knocked("0".repeat(23) + "1").knockPeriodByTrying(0));
        due(24, () -> knocked("3" + "0".repeat(23) + "1").knockPeriodByTrying(0));
        due(23, () -> knocked("0" + "1".repeat(22) + "0").knockPeriodByTrying(0));
        due(1, () -> knocked("3" + "0".repeat(24)).knockPeriodByTrying(0));
        due(2, () -> knocked("3" + "01".repeat(12)).knockPeriodByTrying(0));
        due(9, () -> knocked("00100100" + "20010010").knockPeriodByTrying(0));
        due(5, () -> knocked("0010000100").knockPeriodByTrying(0));

        says(NO_ENGINE);
        refusedBeside(0, 1, INDEX, BUSY, EngineMonastery::knockPeriodByTrying);
        refusedBeside(0, 3, INDEX, FULL, EngineMonastery::knockPeriodByTrying);
        refused(INDEX, EMPTY, x -> x.knockPeriodByTrying(0));

        says("Throws `NoSuchElementException` if no knock of this engine is kept");
        refused(ELEMENT, DRY, x -> x.knockPeriodByTrying(0));
        Scene other = () -> {
            EngineMonastery m = with(3, 3);
            m.run(1, 16);
            return m;
        };
        refused(ELEMENT, other, x -> x.knockPeriodByTrying(0));
        due(1, () -> other.make().knockPeriodByTrying(1));
    }

    private static void engineAtRank() {
        under("Promise 29");
        says("Returns the engine at a rank: the one with the greater wear of all its cylinders together first; of "
                + "engines with the same wear the lower one first.");
        EngineMonastery m = with(3, 8, 3, 3);
        due("0123", () -> ranksOf(m));
        m.run(3, 5);
        due("3012", () -> ranksOf(m));
        m.run(1, 5);
        due("1302", () -> ranksOf(m));
        m.run(0, 4);
        due("1302", () -> ranksOf(m));
        m.run(0, 1);
        due("0132", () -> ranksOf(m));
        m.run(0, 1);
        due("0132", () -> ranksOf(m));
        m.run(2, 7);
        due("2013", () -> ranksOf(m));
        // Of three cylinders 15 units burn; the other strokes knock and are no wear.
        m.run(2, 99);
        m.run(3, 99);
        m.run(0, 99);
        m.run(1, 10);
        due("0123", () -> ranksOf(m));
        m.run(1, 1);
        due("1023", () -> ranksOf(m));

        says("- `rank`: the rank, from 0");
        due(0, () -> with(3).engineAtRank(0));
        due(3, () -> with(3, 3, 3, 3).engineAtRank(3));

        says("Throws `NoSuchElementException` if there is no such rank");
        refused(ELEMENT, EMPTY, x -> x.engineAtRank(0));
        refusedBeside(0, 0, ELEMENT, DRY, EngineMonastery::engineAtRank);
        refusedBeside(0, 1, ELEMENT, BUSY, EngineMonastery::engineAtRank);
        refusedBeside(0, 3, ELEMENT, FULL, EngineMonastery::engineAtRank);
    }

    private static String ranksOf(EngineMonastery m) {
        StringBuilder ranks = new StringBuilder();
        for (int rank = 0; rank < m.engineCount(); rank++) {
            ranks.append(m.engineAtRank(rank));
        }
        return ranks.toString();
    }
}
