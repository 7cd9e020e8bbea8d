/** Promises 15 to 29: strokes, oil, accounts, knocks, their periods, and ranks by wear. */
public final class OilTest {
    public static void main(String[] args) {
        run();
        oil();
        oilDriest();
        leastOilAfter();
        manyLevels();
        buyOil();
        oilOfAndWearOf();
        accounts();
        knocks();
        knockPeriods();
        engineAtRank();
        Checks.end();
    }

    private static EngineMonastery with(int... cylinders) {
        EngineMonastery monastery = new EngineMonastery();
        for (int number : cylinders) {
            monastery.addEngine(number);
        }
        return monastery;
    }

    private static void run() {
        EngineMonastery m = with(3, 4);
        Checks.due("15: oil for each stroke", 0, () -> m.run(0, 7));
        Checks.due("15: cylinder 0 fired three times", 2, () -> m.oilOf(0, 0));
        Checks.due("15: its wear", 3, () -> m.wearOf(0, 0));
        Checks.due("15: cylinder 1 fired twice", 3, () -> m.oilOf(0, 1));
        Checks.due("15: cylinder 1 is due", 1, () -> m.dueAfter(0, 0));
        Checks.due("15: eight fire, two knock", 2, () -> m.run(0, 10));
        Checks.due("15: a knock is no wear", 5, () -> m.wearOf(0, 0));
        Checks.due("15: 99 knocks", 99, () -> m.run(0, 99));
        Checks.due("15: the other engine stood", 5, () -> m.oilOf(1, 0));
        Checks.due("15: knocks are of the present hour", 101, () -> m.knocksIn(0));
        m.exchange(1, 0, 3);
        m.run(1, 1);
        Checks.due("15: in firing order", 4, () -> m.oilOf(1, 3));
        Checks.argument("15: no strokes", () -> m.run(0, 0));
        Checks.argument("15: 100", () -> m.run(0, 100));
        Checks.argument("15: -1", () -> m.run(0, -1));
        Checks.index("15: engine 2", () -> m.run(2, 1));
        Checks.index("15: the engine comes first", () -> m.run(-1, 0));
    }

    private static void oil() {
        EngineMonastery m = with(3);
        Checks.due("16: seven units", 12, () -> m.oil(0, 1, 7));
        Checks.due("16: one unit", 13, () -> m.oil(0, 1, 1));
        Checks.due("16: all is still there", 35, m::allOil);
        Checks.state("16: the store holds twelve", () -> m.oil(0, 2, 13));
        Checks.due("16: all of the store", 17, () -> m.oil(0, 2, 12));
        Checks.state("16: the store is empty", () -> m.oil(0, 0, 1));
        Checks.argument("16: none", () -> m.oil(0, 0, 0));
        Checks.argument("16: 100, before the state", () -> m.oil(0, 0, 100));
        Checks.index("16: cylinder 3, before the argument", () -> m.oil(0, 3, 0));
        Checks.index("16: cylinder -1", () -> m.oil(0, -1, 1));
        Checks.index("16: engine 1", () -> m.oil(1, 0, 1));
        Checks.index("16: engine -1", () -> m.oil(-1, 0, 1));
        Checks.due("16: a failed call changes nothing", 5, () -> m.oilOf(0, 0));
        m.buyOil(99);
        Checks.due("16: 99 units", 104, () -> m.oil(0, 0, 99));
    }

    private static void oilDriest() {
        EngineMonastery m = with(3, 3);
        m.run(1, 4);
        // Engine 1 has 3, 4, 4; engine 0 has 5, 5, 5.
        Checks.due("17: the driest one", 4, () -> m.oilDriest(1));
        Checks.due("17: got it", 4, () -> m.oilOf(1, 0));
        Checks.due("17: three at 4, all at 5", 5, () -> m.oilDriest(3));
        Checks.due("17: of equal ones the lowest engine", 5, () -> m.oilDriest(2));
        Checks.due("17: cylinder 0", 6, () -> m.oilOf(0, 0));
        Checks.due("17: cylinder 1", 6, () -> m.oilOf(0, 1));
        Checks.due("17: not cylinder 2", 5, () -> m.oilOf(0, 2));
        Checks.due("17: not the other engine", 5, () -> m.oilOf(1, 0));
        Checks.due("17: 14 are left", 6, () -> m.oilDriest(4));
        Checks.state("17: ten are left", () -> m.oilDriest(11));
        Checks.due("17: all of them", 7, () -> m.oilDriest(10));
        Checks.state("17: none is left", () -> m.oilDriest(1));
        Checks.argument("17: no units", () -> m.oilDriest(0));
        Checks.argument("17: 100", () -> m.oilDriest(100));
        Checks.argument("17: -1", () -> m.oilDriest(-1));
        EngineMonastery empty = new EngineMonastery();
        Checks.state("17: no engines", () -> empty.oilDriest(1));
        Checks.argument("17: no engines, but the argument first", () -> empty.oilDriest(0));
        Checks.due("17: the store is as it was", 20, empty::allOil);
    }

    private static void leastOilAfter() {
        EngineMonastery m = with(3, 4);
        m.run(0, 5);
        m.oil(1, 2, 9);
        // 3, 3, 4, 5, 5, 14, 5: two to 4, three to 5, then six at a time up to 14.
        int[][] due = {{0, 3}, {1, 3}, {2, 4}, {4, 4}, {5, 5}, {10, 5}, {11, 6}, {58, 13}, {59, 14}, {65, 14}, {66, 15},
            {999, 148}};
        for (int[] pair : due) {
            Checks.due("18: after " + pair[0], pair[1], () -> m.leastOilAfter(pair[0]));
            Checks.due("19: after " + pair[0], pair[1], () -> m.leastOilAfterByGiving(pair[0]));
        }
        Checks.due("18, 19: nothing was given", 3, () -> m.oilOf(0, 0));
        Checks.due("18, 19: nor taken", 50, m::allOil);
        EngineMonastery empty = new EngineMonastery();
        Checks.element("18: no engines", () -> empty.leastOilAfter(0));
        Checks.element("19: no engines", () -> empty.leastOilAfterByGiving(0));
        for (int wrong : new int[] {-1, 1000, Integer.MIN_VALUE}) {
            Checks.argument("18: " + wrong, () -> m.leastOilAfter(wrong));
            Checks.argument("19: " + wrong, () -> m.leastOilAfterByGiving(wrong));
            Checks.argument("18: first " + wrong, () -> empty.leastOilAfter(wrong));
            Checks.argument("19: first " + wrong, () -> empty.leastOilAfterByGiving(wrong));
        }
    }

    /** The 32 cylinders have 5, 6 and so on up to 36 units: 496 units fill all up to 36. */
    private static void manyLevels() {
        EngineMonastery m = with(8, 8, 8, 8);
        for (int cylinder = 1; cylinder < 32; cylinder++) {
            m.buyOil(cylinder);
            m.oil(cylinder / 8, cylinder % 8, cylinder);
        }
        int[][] due = {{0, 5}, {1, 6}, {2, 6}, {3, 7}, {495, 35}, {496, 36}, {527, 36}, {528, 37}, {999, 51}};
        for (int[] pair : due) {
            Checks.due("18: many levels, after " + pair[0], pair[1], () -> m.leastOilAfter(pair[0]));
            Checks.due("19: many levels, after " + pair[0], pair[1], () -> m.leastOilAfterByGiving(pair[0]));
        }
    }

    private static void buyOil() {
        EngineMonastery m = new EngineMonastery();
        Checks.due("20: one unit", 21, () -> m.buyOil(1));
        Checks.due("20: 99", 120, () -> m.buyOil(99));
        Checks.argument("20: none", () -> m.buyOil(0));
        Checks.argument("20: 100", () -> m.buyOil(100));
        Checks.argument("20: -1", () -> m.buyOil(-1));
        m.buyOil(99);
        m.buyOil(99);
        m.buyOil(99);
        Checks.state("20: 501", () -> m.buyOil(84));
        Checks.due("20: 500", 500, () -> m.buyOil(83));
        Checks.state("20: the store is full", () -> m.buyOil(1));
        Checks.argument("20: the argument first", () -> m.buyOil(100));
        Checks.due("20: a failed call changes nothing", 500, m::allOil);
        m.addEngine(3);
        m.oil(0, 0, 10);
        Checks.due("20: there is room again", 499, () -> m.buyOil(9));
    }

    private static void oilOfAndWearOf() {
        EngineMonastery m = with(3, 5);
        m.run(1, 3);
        Checks.due("21: fired", 4, () -> m.oilOf(1, 2));
        Checks.due("21: not fired", 5, () -> m.oilOf(1, 3));
        Checks.due("22: fired", 1, () -> m.wearOf(1, 2));
        Checks.due("22: not fired", 0, () -> m.wearOf(1, 3));
        int[][] wrong = {{2, 0}, {-1, 0}, {0, 3}, {0, -1}, {1, 5}, {4, 0}};
        for (int[] pair : wrong) {
            Checks.index("21: no such", () -> m.oilOf(pair[0], pair[1]));
            Checks.index("22: no such", () -> m.wearOf(pair[0], pair[1]));
        }
    }

    private static void accounts() {
        EngineMonastery m = with(3);
        all(35, m);
        m.addEngine(8);
        all(75, m);
        m.run(0, 20);
        all(60, m);
        m.buyOil(30);
        all(90, m);
        m.oilDriest(25);
        m.oil(1, 0, 5);
        all(90, m);
        m.setRate(1, 9);
        m.pass(1);
        all(81, m);
        m.undo();
        all(90, m);
        m.addRepair(0, 2, 1);
        m.repair();
        all(72, m);
    }

    private static void all(int due, EngineMonastery m) {
        Checks.due("23: all oil", due, m::allOil);
        Checks.due("24: by accounts", due, m::allOilByAccounts);
    }

    private static void knocks() {
        EngineMonastery m = with(3, 3);
        m.run(0, 15);
        Checks.due("25: no knock", 0, () -> m.knockCount(0));
        Checks.element("26: no knock", () -> m.knockAt(0, 0));
        m.run(0, 2);
        Checks.due("25: two", 2, () -> m.knockCount(0));
        Checks.due("26: the oldest", 0, () -> m.knockAt(0, 0));
        Checks.due("26: the latest", 1, () -> m.knockAt(0, 1));
        Checks.element("26: place 2", () -> m.knockAt(0, 2));
        Checks.element("26: place -1", () -> m.knockAt(0, -1));
        m.run(0, 22);
        Checks.due("25: 24", 24, () -> m.knockCount(0));
        Checks.due("26: the oldest is still there", 0, () -> m.knockAt(0, 0));
        m.run(0, 2);
        Checks.due("25: no more than 24", 24, () -> m.knockCount(0));
        Checks.due("26: the two oldest are gone", 2, () -> m.knockAt(0, 0));
        Checks.due("26: the latest of 24", 1, () -> m.knockAt(0, 23));
        Checks.element("26: place 24", () -> m.knockAt(0, 24));
        Checks.due("25: the other engine", 0, () -> m.knockCount(1));
        Checks.index("25: engine 2", () -> m.knockCount(2));
        Checks.index("25: engine -1", () -> m.knockCount(-1));
        Checks.index("26: engine 2", () -> m.knockAt(2, 0));
        Checks.index("26: the engine comes first", () -> m.knockAt(-1, -1));
    }

    private static void period(int due, EngineMonastery m) {
        Checks.due("27: period", due, () -> m.knockPeriod(0));
        Checks.due("28: period", due, () -> m.knockPeriodByTrying(0));
    }

    private static void knockPeriods() {
        EngineMonastery m = with(4);
        Checks.element("27: no knock", () -> m.knockPeriod(0));
        Checks.element("28: no knock", () -> m.knockPeriodByTrying(0));
        Checks.index("27: engine 1", () -> m.knockPeriod(1));
        Checks.index("28: engine 1", () -> m.knockPeriodByTrying(1));
        Checks.index("27: engine -1", () -> m.knockPeriod(-1));
        Checks.index("28: engine -1", () -> m.knockPeriodByTrying(-1));
        // The knocks one after the other, with the period of those so far behind them.
        periods("0 1 2 3 0 1 2 3 3 0 1", 1, 2, 3, 4, 4, 4, 4, 4, 9, 9, 9);
        periods("1 1 1 2 1 1 1 2 1 1 2", 1, 1, 1, 4, 4, 4, 4, 4, 4, 4, 11);
        periods("2 0 2 0 2 2 0 2 0 2 2 0", 1, 2, 2, 2, 2, 5, 5, 5, 5, 5, 5, 5);
        periods("3 3 3 3 3", 1, 1, 1, 1, 1);
        periods("0 0 1 0 0 0 1", 1, 1, 3, 3, 3, 4, 4);
        EngineMonastery few = with(3);
        few.oil(0, 1, 20);
        few.run(0, 75);
        // Cylinder 1 had 25 units, the others 5: the latest 24 knocks are 0 2 0 2 and so on.
        period(2, few);
        few.run(0, 3);
        // Now 2 0 2 0 .. 2 0 1 2, of which only the first 2 and the last one are alike.
        Checks.due("27: 24 are kept", 24, () -> few.knockCount(0));
        period(23, few);
        few.run(0, 21);
        period(3, few);
    }

    private static void periods(String knocks, int... due) {
        EngineMonastery m = with(4);
        m.run(0, 20);
        for (int count = 0; count < due.length; count++) {
            int cylinder = knocks.charAt(2 * count) - '0';
            int place = 0;
            while (m.orderAt(0, place) != cylinder) {
                place++;
            }
            m.exchange(0, count % 4, place);
            m.run(0, 1);
            period(due[count], m);
        }
    }

    private static void engineAtRank() {
        EngineMonastery m = new EngineMonastery();
        Checks.element("29: no engine", () -> m.engineAtRank(0));
        m.addEngine(3);
        m.addEngine(4);
        m.addEngine(3);
        ranks(m, 0, 1, 2);
        m.run(2, 5);
        ranks(m, 2, 0, 1);
        m.run(1, 5);
        ranks(m, 1, 2, 0);
        m.run(0, 6);
        ranks(m, 0, 1, 2);
        m.run(2, 12);
        // Wear 6, 5 and 15: the last two of the 17 strokes knocked.
        ranks(m, 2, 0, 1);
        Checks.element("29: rank 3", () -> m.engineAtRank(3));
        Checks.element("29: rank -1", () -> m.engineAtRank(-1));
        m.addRepair(2, 1, 1);
        m.repair();
        ranks(m, 0, 1, 2);
    }

    private static void ranks(EngineMonastery m, int... engines) {
        for (int rank = 0; rank < engines.length; rank++) {
            int at = rank;
            Checks.due("29: rank " + at, engines[at], () -> m.engineAtRank(at));
        }
    }
}
