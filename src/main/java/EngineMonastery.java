import java.util.NoSuchElementException;

/** A monastery of engines, as the numbered promises of the document describe it. */
public final class EngineMonastery {
    private static final int MOST_ENGINES = 4;
    private static final int LEAST_CYLINDERS = 3;
    private static final int MOST_CYLINDERS = 8;
    private static final int MOST_EVENNESS = 4;
    private static final int MOST_RATE = 9;
    private static final int MOST_STROKES = 99;
    private static final int MOST_STROKES_AHEAD = 9999;
    private static final int MOST_UNITS = 99;
    private static final int MOST_UNITS_AHEAD = 999;
    private static final int MOST_STORE = 500;
    private static final int FIRST_STORE = 20;
    private static final int FIRST_OIL = 5;
    private static final int MOST_KNOCKS = 24;
    private static final int MOST_KNOCK_HOURS = 12;
    private static final int VIGILS = 8;
    private static final int MOST_MONKS = 6;
    private static final int MOST_REPAIRS = 8;
    private static final int MOST_REPAIR_HOURS = 9;
    private static final int MOST_REPAIR_PENANCE = 9;
    private static final int MOST_HOURS = 48;
    private static final int MOST_CHANGES = 8;
    private static final int LEAST_CHARACTER = 32;
    private static final int MOST_CHARACTER = 126;

    // What stands against a change: a code and not an exception, so that execute can ask first.
    private static final int FINE = 0;
    private static final int NO_SUCH_INDEX = 1;
    private static final int BAD_ARGUMENT = 2;
    private static final int BAD_STATE = 3;

    private static final int NONE = -1;

    private final House house = new House();
    private final House trial = new House();
    private final House snapshot = new House();
    private final Past past = new Past();
    private final EvenOrders orders = new EvenOrders();
    private final Rota rota = new Rota();
    private final Penances penances = new Penances();
    private final CommandText text = new CommandText();
    private final Line line = new Line();
    private final int[] borders = new int[MOST_KNOCKS];
    private int lastErrorPosition = NONE;
    private int lastFailedCommand = NONE;
    private boolean hasSnapshot;

    public EngineMonastery() {
    }

    // ---- engines

    public int addEngine(int cylinders) throws IllegalArgumentException, IllegalStateException {
        refuse(house.faultOfEngine(cylinders));
        past.keep(house);
        return house.buildEngine(cylinders);
    }

    public int exchange(int engine, int place, int other) throws IndexOutOfBoundsException {
        refuse(house.faultOfExchange(engine, place, other));
        past.keep(house);
        return house.engines[engine].swapPlaces(place, other);
    }

    public int setRate(int engine, int strokes) throws IndexOutOfBoundsException, IllegalArgumentException {
        refuse(house.faultOfRate(engine, strokes));
        past.keep(house);
        return house.engines[engine].changeRate(strokes);
    }

    public int engineCount() {
        return house.engineCount;
    }

    public int cylinderCount(int engine) throws IndexOutOfBoundsException {
        return existing(engine).cylinders;
    }

    public int orderAt(int engine, int place) throws IndexOutOfBoundsException {
        Engine asked = existing(engine);
        requireIndex(asked.hasCylinder(place));
        return asked.order[place];
    }

    public int dueAfter(int engine, int strokes) throws IndexOutOfBoundsException, IllegalArgumentException {
        Engine asked = existing(engine);
        requireArgument(isWithin(strokes, 0, MOST_STROKES_AHEAD));
        return asked.dueByDivision(strokes);
    }

    public int dueAfterByStrokes(int engine, int strokes)
            throws IndexOutOfBoundsException, IllegalArgumentException {
        Engine asked = existing(engine);
        requireArgument(isWithin(strokes, 0, MOST_STROKES_AHEAD));
        return asked.dueByCounting(strokes);
    }

    public int turnOf(int engine) throws IndexOutOfBoundsException {
        return existing(engine).turnByCycles();
    }

    public int turnByRepeating(int engine) throws IndexOutOfBoundsException {
        return existing(engine).turnBySteps();
    }

    public int evenness(int engine) throws IndexOutOfBoundsException {
        return existing(engine).leastDistance();
    }

    public int evenOrders(int engine, int evenness) throws IndexOutOfBoundsException, IllegalArgumentException {
        Engine asked = existing(engine);
        requireArgument(isWithin(evenness, 1, MOST_EVENNESS));
        return orders.countByTable(asked.cylinders, evenness);
    }

    public int evenOrdersByTrying(int engine, int evenness)
            throws IndexOutOfBoundsException, IllegalArgumentException {
        Engine asked = existing(engine);
        requireArgument(isWithin(evenness, 1, MOST_EVENNESS));
        return orders.countBySwapping(asked.cylinders, evenness);
    }

    // ---- strokes, oil and knocks

    public int run(int engine, int strokes) throws IndexOutOfBoundsException, IllegalArgumentException {
        refuse(house.faultOfRun(engine, strokes));
        past.keep(house);
        return house.runEngine(engine, strokes);
    }

    public int oil(int engine, int cylinder, int units)
            throws IndexOutOfBoundsException, IllegalArgumentException, IllegalStateException {
        refuse(house.faultOfOil(engine, cylinder, units));
        past.keep(house);
        return house.giveOil(engine, cylinder, units);
    }

    public int oilDriest(int units) throws IllegalArgumentException, IllegalStateException {
        refuse(house.faultOfFill(units));
        past.keep(house);
        return house.fillFromStore(units);
    }

    public int leastOilAfter(int units) throws IllegalArgumentException, NoSuchElementException {
        requireArgument(isWithin(units, 0, MOST_UNITS_AHEAD));
        requireElement(house.engineCount > 0);
        return house.levelByFilling(units);
    }

    public int leastOilAfterByGiving(int units) throws IllegalArgumentException, NoSuchElementException {
        requireArgument(isWithin(units, 0, MOST_UNITS_AHEAD));
        requireElement(house.engineCount > 0);
        trial.become(house);
        trial.giveToDriest(units);
        return trial.leastOil();
    }

    public int buyOil(int units) throws IllegalArgumentException, IllegalStateException {
        refuse(house.faultOfPurchase(units));
        past.keep(house);
        return house.buyUnits(units);
    }

    public int oilOf(int engine, int cylinder) throws IndexOutOfBoundsException {
        Engine asked = existing(engine);
        requireIndex(asked.hasCylinder(cylinder));
        return asked.oil[cylinder];
    }

    public int wearOf(int engine, int cylinder) throws IndexOutOfBoundsException {
        Engine asked = existing(engine);
        requireIndex(asked.hasCylinder(cylinder));
        return asked.wear[cylinder];
    }

    public int allOil() {
        return house.store + house.oilInCylinders();
    }

    public int allOilByAccounts() {
        return house.initialOil + house.boughtOil - house.burnedOil;
    }

    public int knockCount(int engine) throws IndexOutOfBoundsException {
        return existing(engine).knocksKept;
    }

    public int knockAt(int engine, int place) throws IndexOutOfBoundsException, NoSuchElementException {
        Engine asked = existing(engine);
        requireElement(isWithin(place, 0, asked.knocksKept - 1));
        return asked.keptKnock(place);
    }

    public int knockPeriod(int engine) throws IndexOutOfBoundsException, NoSuchElementException {
        Engine asked = existing(engine);
        requireElement(asked.knocksKept > 0);
        return asked.periodByBorders(borders);
    }

    public int knockPeriodByTrying(int engine) throws IndexOutOfBoundsException, NoSuchElementException {
        Engine asked = existing(engine);
        requireElement(asked.knocksKept > 0);
        return asked.periodByTrials();
    }

    public int engineAtRank(int rank) throws NoSuchElementException {
        requireElement(isWithin(rank, 0, house.engineCount - 1));
        return house.engineOfRank(rank);
    }

    // ---- vigils

    public int addMonk() throws IllegalStateException {
        refuse(house.faultOfMonk());
        past.keep(house);
        return house.receiveMonk();
    }

    public boolean setAble(int monk, int vigil, boolean isAble) throws IndexOutOfBoundsException {
        refuse(house.faultOfAble(monk, vigil));
        past.keep(house);
        return house.changeAble(monk, vigil, isAble);
    }

    public int mostVigils() {
        return rota.mostByChains(house.vigilsOf);
    }

    public int mostVigilsByTable() {
        return rota.mostByTable(house.vigilsOf);
    }

    public int keeperOf(int vigil) throws IndexOutOfBoundsException, NoSuchElementException {
        requireIndex(isWithin(vigil, 0, VIGILS - 1));
        rota.findBest(house.vigilsOf);
        requireElement(rota.keepers[vigil] != NONE);
        return rota.keepers[vigil];
    }

    // ---- repairs and hours

    public int addRepair(int engine, int hours, int penance)
            throws IndexOutOfBoundsException, IllegalArgumentException, IllegalStateException {
        refuse(house.faultOfRepair(engine, hours, penance));
        past.keep(house);
        return house.repairs.ask(engine, hours, penance);
    }

    public int removeRepair(int repair) throws IndexOutOfBoundsException {
        requireIndex(isWithin(repair, 0, house.repairs.count - 1));
        past.keep(house);
        return house.repairs.withdraw(repair);
    }

    public int repairCount() {
        return house.repairs.count;
    }

    public int leastPenance() {
        return penances.leastByQueue(house.repairs);
    }

    public int leastPenanceByTable() {
        return penances.leastBySets(house.repairs);
    }

    public int repair() throws IllegalStateException {
        refuse(house.faultOfRepairing());
        past.keep(house);
        return house.doFirstRepair();
    }

    public int penanceDone() {
        return house.penanceDone;
    }

    public int pass(int hours) throws IllegalArgumentException {
        refuse(house.faultOfHours(hours));
        past.keep(house);
        return house.passHours(hours);
    }

    public int hour() {
        return house.hour;
    }

    public int knocksIn(int hour) throws NoSuchElementException {
        int place = house.knockBook.placeFrom(hour);
        requireElement(place < house.knockBook.kept && house.knockBook.hours[place] == hour);
        return house.knockBook.knocks[place];
    }

    public int hourOfKnocks(int from) throws NoSuchElementException {
        int place = house.knockBook.placeFrom(from);
        requireElement(place < house.knockBook.kept);
        return house.knockBook.hours[place];
    }

    // ---- commands

    public int append(char character) throws IllegalArgumentException, IllegalStateException {
        requireArgument(isWithin(character, LEAST_CHARACTER, MOST_CHARACTER));
        requireState(text.hasRoom());
        return text.add(character);
    }

    public int execute() throws IllegalArgumentException, IllegalStateException {
        int error = text.read();
        text.empty();
        if (error != NONE) {
            lastErrorPosition = error;
            throw new IllegalArgumentException();
        }
        trial.become(house);
        for (int command = 0; command < text.commands; command++) {
            if (trial.faultOf(text, command) != FINE) {
                lastFailedCommand = command;
                throw new IllegalStateException();
            }
            trial.carryOut(text, command);
        }
        past.keep(house);
        house.become(trial);
        return text.commands;
    }

    public int errorPosition() throws NoSuchElementException {
        requireElement(lastErrorPosition != NONE);
        return lastErrorPosition;
    }

    public int failedCommand() throws NoSuchElementException {
        requireElement(lastFailedCommand != NONE);
        return lastFailedCommand;
    }

    // ---- line, statistics, undo, snapshot

    public int describeEngine(int engine) throws IndexOutOfBoundsException {
        Engine asked = existing(engine);
        line.empty();
        line.writeDigit(engine);
        line.write(':');
        for (int place = 0; place < asked.cylinders; place++) {
            writePlace(asked, place);
        }
        return line.length;
    }

    public int describeRota() {
        rota.findBest(house.vigilsOf);
        line.empty();
        for (int vigil = 0; vigil < VIGILS; vigil++) {
            if (rota.keepers[vigil] == NONE) {
                line.write('-');
            } else {
                line.writeDigit(rota.keepers[vigil]);
            }
        }
        return line.length;
    }

    public char lineAt(int index) throws IndexOutOfBoundsException {
        requireIndex(isWithin(index, 0, line.length - 1));
        return line.characters[index];
    }

    public double meanOil() throws ArithmeticException {
        int cylinders = house.allCylinders();
        if (cylinders == 0) {
            throw new ArithmeticException();
        }
        return (double) house.oilInCylinders() / (double) cylinders;
    }

    public float vigilShare() {
        return (float) rota.mostByTable(house.vigilsOf) / (float) VIGILS;
    }

    public boolean isConsistent() {
        return enginesAgree()
                && (house.engineCount == 0 || oilAgrees(0) && oilAgrees(10) && oilAgrees(99))
                && mostVigils() == mostVigilsByTable()
                && leastPenance() == leastPenanceByTable()
                && allOil() == allOilByAccounts();
    }

    public int undo() throws IllegalStateException {
        requireState(past.kept > 0);
        return past.takeBack(house);
    }

    public int save() {
        snapshot.become(house);
        hasSnapshot = true;
        return house.engineCount;
    }

    public int restore() throws IllegalStateException {
        requireState(hasSnapshot);
        house.become(snapshot);
        past.forget();
        return house.engineCount;
    }

    // ---- help for the calls above

    private Engine existing(int engine) {
        requireIndex(house.hasEngine(engine));
        return house.engines[engine];
    }

    private static void refuse(int fault) {
        requireIndex(fault != NO_SUCH_INDEX);
        requireArgument(fault != BAD_ARGUMENT);
        requireState(fault != BAD_STATE);
    }

    private static void requireIndex(boolean holds) {
        if (!holds) {
            throw new IndexOutOfBoundsException();
        }
    }

    private static void requireArgument(boolean holds) {
        if (!holds) {
            throw new IllegalArgumentException();
        }
    }

    private static void requireState(boolean holds) {
        if (!holds) {
            throw new IllegalStateException();
        }
    }

    private static void requireElement(boolean holds) {
        if (!holds) {
            throw new NoSuchElementException();
        }
    }

    private static boolean isWithin(int number, int least, int most) {
        return number >= least && number <= most;
    }

    private static int distance(int cylinder, int other, int cylinders) {
        int steps = Math.abs(cylinder - other);
        return Math.min(steps, cylinders - steps);
    }

    private void writePlace(Engine engine, int place) {
        int cylinder = engine.order[place];
        if (place == engine.due) {
            line.write('*');
        }
        line.writeDigit(cylinder);
        if (engine.oil[cylinder] == 0) {
            line.write('!');
        }
    }

    private boolean enginesAgree() {
        for (int engine = 0; engine < house.engineCount; engine++) {
            if (turnOf(engine) != turnByRepeating(engine)
                    || evenOrders(engine, 2) != evenOrdersByTrying(engine, 2)) {
                return false;
            }
            if (knockCount(engine) > 0 && knockPeriod(engine) != knockPeriodByTrying(engine)) {
                return false;
            }
        }
        return true;
    }

    private boolean oilAgrees(int units) {
        return leastOilAfter(units) == leastOilAfterByGiving(units);
    }

    /** One engine. A slot that no engine has yet is a valid engine too, so that nothing divides by 0. */
    private static final class Engine {
        final int[] order = new int[MOST_CYLINDERS];
        final int[] oil = new int[MOST_CYLINDERS];
        final int[] wear = new int[MOST_CYLINDERS];
        // A ring: the oldest kept knock stands at oldestKnock.
        final int[] knocks = new int[MOST_KNOCKS];
        int oldestKnock;
        int knocksKept;
        int cylinders = LEAST_CYLINDERS;
        int due;
        int rate;

        void begin(int number) {
            cylinders = number;
            due = 0;
            rate = 0;
            oldestKnock = 0;
            knocksKept = 0;
            for (int cylinder = 0; cylinder < MOST_CYLINDERS; cylinder++) {
                order[cylinder] = cylinder;
                oil[cylinder] = FIRST_OIL;
                wear[cylinder] = 0;
            }
        }

        void become(Engine other) {
            System.arraycopy(other.order, 0, order, 0, MOST_CYLINDERS);
            System.arraycopy(other.oil, 0, oil, 0, MOST_CYLINDERS);
            System.arraycopy(other.wear, 0, wear, 0, MOST_CYLINDERS);
            System.arraycopy(other.knocks, 0, knocks, 0, MOST_KNOCKS);
            oldestKnock = other.oldestKnock;
            knocksKept = other.knocksKept;
            cylinders = other.cylinders;
            due = other.due;
            rate = other.rate;
        }

        /** Whether there is such a cylinder, or such a place: an engine has as many of both. */
        boolean hasCylinder(int number) {
            return isWithin(number, 0, cylinders - 1);
        }

        int swapPlaces(int place, int other) {
            int cylinder = order[place];
            order[place] = order[other];
            order[other] = cylinder;
            return order[place];
        }

        int changeRate(int strokes) {
            int before = rate;
            rate = strokes;
            return before;
        }

        int dueByDivision(int strokes) {
            if (cylinders < 1) {
                return 0;
            }
            return order[(due + strokes) % cylinders];
        }

        int dueByCounting(int strokes) {
            int place = due;
            for (int stroke = 0; stroke < strokes; stroke++) {
                place = placeAfter(place);
            }
            return order[place];
        }

        int placeAfter(int place) {
            return place + 1 < cylinders ? place + 1 : 0;
        }

        /** The least common multiple of the lengths of all cycles. */
        int turnByCycles() {
            int turn = 1;
            for (int cylinder = 0; cylinder < cylinders; cylinder++) {
                turn = leastCommonMultiple(turn, cycleFrom(cylinder));
            }
            return turn;
        }

        int cycleFrom(int cylinder) {
            int length = 1;
            for (int at = order[cylinder]; at != cylinder && length < cylinders; at = order[at]) {
                length++;
            }
            return length;
        }

        static int leastCommonMultiple(int number, int other) {
            for (int times = 1; times < other; times++) {
                if (number * times % other == 0) {
                    return number * times;
                }
            }
            return number * other;
        }

        int turnBySteps() {
            // No order of eight has a longer turn than 15; the bound only shows the end.
            int most = MOST_CYLINDERS * MOST_CYLINDERS;
            int turn = 1;
            while (turn < most && !leadsBackAfter(turn)) {
                turn++;
            }
            return turn;
        }

        boolean leadsBackAfter(int times) {
            for (int cylinder = 0; cylinder < cylinders; cylinder++) {
                int at = cylinder;
                for (int time = 0; time < times; time++) {
                    at = order[at];
                }
                if (at != cylinder) {
                    return false;
                }
            }
            return true;
        }

        int leastDistance() {
            int least = cylinders;
            for (int place = 0; place < cylinders; place++) {
                int next = order[placeAfter(place)];
                least = Math.min(least, distance(order[place], next, cylinders));
            }
            return least;
        }

        /** Runs by some strokes and returns how many of them knocked. */
        int turnOver(int strokes) {
            int knocked = 0;
            for (int stroke = 0; stroke < strokes; stroke++) {
                int cylinder = order[due];
                if (oil[cylinder] > 0) {
                    oil[cylinder]--;
                    wear[cylinder]++;
                } else {
                    keepKnock(cylinder);
                    knocked++;
                }
                due = placeAfter(due);
            }
            return knocked;
        }

        void keepKnock(int cylinder) {
            if (knocksKept < MOST_KNOCKS) {
                knocks[(oldestKnock + knocksKept) % MOST_KNOCKS] = cylinder;
                knocksKept++;
            } else {
                knocks[oldestKnock] = cylinder;
                oldestKnock = (oldestKnock + 1) % MOST_KNOCKS;
            }
        }

        int keptKnock(int place) {
            return knocks[(oldestKnock + place) % MOST_KNOCKS];
        }

        /** The number of kept knocks less the length of their longest border; asked only if one is kept. */
        int periodByBorders(int[] borders) {
            int border = 0;
            for (int place = 1; place < knocksKept; place++) {
                int knock = keptKnock(place);
                for (int tries = 0; tries < place && border > 0 && keptKnock(border) != knock; tries++) {
                    border = borders[border - 1];
                }
                if (keptKnock(border) == knock) {
                    border++;
                }
                borders[place] = border;
            }
            return knocksKept - border;
        }

        int periodByTrials() {
            for (int period = 1; period < knocksKept; period++) {
                if (repeatsAfter(period)) {
                    return period;
                }
            }
            return knocksKept;
        }

        boolean repeatsAfter(int period) {
            for (int place = period; place < knocksKept; place++) {
                if (keptKnock(place) != keptKnock(place - period)) {
                    return false;
                }
            }
            return true;
        }

        int sumOf(int[] perCylinder) {
            int sum = 0;
            for (int cylinder = 0; cylinder < cylinders; cylinder++) {
                sum += perCylinder[cylinder];
            }
            return sum;
        }

        void renew() {
            for (int cylinder = 0; cylinder < cylinders; cylinder++) {
                wear[cylinder] = 0;
            }
        }
    }

    /** Counts the firing orders that begin with cylinder 0 and are even enough. */
    private static final class EvenOrders {
        private final int[] table = new int[(1 << MOST_CYLINDERS) * MOST_CYLINDERS];
        private final int[] order = new int[MOST_CYLINDERS];

        /** The table tells, for a set of cylinders and the last of them, the orders that come so far. */
        int countByTable(int cylinders, int evenness) {
            int sets = 1 << cylinders;
            for (int slot = 0; slot < sets * MOST_CYLINDERS; slot++) {
                table[slot] = 0;
            }
            // The set of cylinder 0 alone, which is the last of it too.
            table[MOST_CYLINDERS] = 1;
            for (int set = 1; set < sets; set += 2) {
                for (int last = 0; last < cylinders; last++) {
                    goOn(set, last, cylinders, evenness);
                }
            }
            return sumOfEnds(cylinders, evenness);
        }

        private void goOn(int set, int last, int cylinders, int evenness) {
            int ways = table[set * MOST_CYLINDERS + last];
            if (ways == 0) {
                return;
            }
            for (int next = 0; next < cylinders; next++) {
                int bit = 1 << next;
                if ((set & bit) == 0 && distance(last, next, cylinders) >= evenness) {
                    table[(set | bit) * MOST_CYLINDERS + next] += ways;
                }
            }
        }

        private int sumOfEnds(int cylinders, int evenness) {
            int all = (1 << cylinders) - 1;
            int sum = 0;
            for (int last = 1; last < cylinders; last++) {
                if (distance(last, 0, cylinders) >= evenness) {
                    sum += table[all * MOST_CYLINDERS + last];
                }
            }
            return sum;
        }

        int countBySwapping(int cylinders, int evenness) {
            for (int place = 0; place < cylinders; place++) {
                order[place] = place;
            }
            return countFrom(1, order, cylinders, evenness);
        }

        /** Tries each cylinder left at this place; the place, at most 8, is the depth. */
        private static int countFrom(int place, int[] order, int cylinders, int evenness) {
            if (place >= cylinders) {
                return distance(order[place - 1], order[0], cylinders) >= evenness ? 1 : 0;
            }
            int count = 0;
            for (int from = place; from < cylinders; from++) {
                int tried = order[from];
                if (distance(order[place - 1], tried, cylinders) >= evenness) {
                    order[from] = order[place];
                    order[place] = tried;
                    count += countFrom(place + 1, order, cylinders, evenness);
                    order[place] = order[from];
                    order[from] = tried;
                }
            }
            return count;
        }
    }

    /** Finds rotas. A monk who is not there yet can keep no vigil, so all six are looked at. */
    private static final class Rota {
        private static final int SETS = 1 << MOST_MONKS;
        // For a vigil and the set of monks already taken: the most vigils from this one on.
        private final int[] table = new int[(VIGILS + 1) * SETS];
        private final int[] vigilKept = new int[MOST_MONKS];
        private final int[] asked = new int[MOST_MONKS];
        final int[] keepers = new int[VIGILS];

        int mostByChains(int[] vigilsOf) {
            for (int monk = 0; monk < MOST_MONKS; monk++) {
                vigilKept[monk] = NONE;
            }
            int most = 0;
            for (int vigil = 0; vigil < VIGILS; vigil++) {
                for (int monk = 0; monk < MOST_MONKS; monk++) {
                    asked[monk] = 0;
                }
                if (findKeeper(vigil, vigilsOf, vigilKept, asked, 0)) {
                    most++;
                }
            }
            return most;
        }

        /** Each level of the chain asks a monk who was not asked before, so it has at most seven. */
        private static boolean findKeeper(int vigil, int[] vigilsOf, int[] vigilKept, int[] asked, int depth) {
            if (depth > MOST_MONKS) {
                return false;
            }
            for (int monk = 0; monk < MOST_MONKS; monk++) {
                if (asked[monk] == 0 && canKeep(vigilsOf, monk, vigil)) {
                    asked[monk] = 1;
                    if (vigilKept[monk] == NONE
                            || findKeeper(vigilKept[monk], vigilsOf, vigilKept, asked, depth + 1)) {
                        vigilKept[monk] = vigil;
                        return true;
                    }
                }
            }
            return false;
        }

        int mostByTable(int[] vigilsOf) {
            for (int taken = 0; taken < SETS; taken++) {
                table[VIGILS * SETS + taken] = 0;
            }
            for (int vigil = VIGILS - 1; vigil >= 0; vigil--) {
                for (int taken = 0; taken < SETS; taken++) {
                    table[vigil * SETS + taken] = mostFrom(vigil, taken, vigilsOf);
                }
            }
            return table[0];
        }

        private int mostFrom(int vigil, int taken, int[] vigilsOf) {
            int next = (vigil + 1) * SETS;
            int most = table[next + taken];
            for (int monk = 0; monk < MOST_MONKS; monk++) {
                if (isFree(taken, monk) && canKeep(vigilsOf, monk, vigil)) {
                    most = Math.max(most, 1 + table[next + (taken | 1 << monk)]);
                }
            }
            return most;
        }

        /** Fills keepers: for each vigil the lowest monk with whom the most vigils can still be kept. */
        void findBest(int[] vigilsOf) {
            mostByTable(vigilsOf);
            int taken = 0;
            for (int vigil = 0; vigil < VIGILS; vigil++) {
                int monk = lowestKeeper(vigil, taken, vigilsOf);
                keepers[vigil] = monk;
                if (monk != NONE) {
                    taken |= 1 << monk;
                }
            }
        }

        private int lowestKeeper(int vigil, int taken, int[] vigilsOf) {
            int most = table[vigil * SETS + taken];
            for (int monk = 0; monk < MOST_MONKS; monk++) {
                if (isFree(taken, monk) && canKeep(vigilsOf, monk, vigil)
                        && 1 + table[(vigil + 1) * SETS + (taken | 1 << monk)] == most) {
                    return monk;
                }
            }
            return NONE;
        }

        private static boolean isFree(int taken, int monk) {
            return (taken & 1 << monk) == 0;
        }

        private static boolean canKeep(int[] vigilsOf, int monk, int vigil) {
            return (vigilsOf[monk] & 1 << vigil) != 0;
        }
    }

    /** The repairs that are asked for, by their indices. */
    private static final class Repairs {
        final int[] engines = new int[MOST_REPAIRS];
        final int[] hours = new int[MOST_REPAIRS];
        final int[] penances = new int[MOST_REPAIRS];
        int count;

        void become(Repairs other) {
            System.arraycopy(other.engines, 0, engines, 0, MOST_REPAIRS);
            System.arraycopy(other.hours, 0, hours, 0, MOST_REPAIRS);
            System.arraycopy(other.penances, 0, penances, 0, MOST_REPAIRS);
            count = other.count;
        }

        int ask(int engine, int time, int penance) {
            engines[count] = engine;
            hours[count] = time;
            penances[count] = penance;
            count++;
            return count - 1;
        }

        int withdraw(int repair) {
            for (int index = repair; index + 1 < count; index++) {
                engines[index] = engines[index + 1];
                hours[index] = hours[index + 1];
                penances[index] = penances[index + 1];
            }
            count--;
            return count;
        }

        /** Compares the fractions hours / penance without a division. */
        boolean isBefore(int repair, int other) {
            int here = hours[repair] * penances[other];
            int there = hours[other] * penances[repair];
            return here < there || here == there && repair < other;
        }

        int firstOfBest() {
            int first = 0;
            for (int repair = 1; repair < count; repair++) {
                if (isBefore(repair, first)) {
                    first = repair;
                }
            }
            return first;
        }

        int penanceOfAnHour() {
            int sum = 0;
            for (int repair = 0; repair < count; repair++) {
                sum += penances[repair];
            }
            return sum;
        }
    }

    /** Finds the smallest penance for all repairs. */
    private static final class Penances {
        private final int[] queue = new int[MOST_REPAIRS];
        private final int[] table = new int[1 << MOST_REPAIRS];

        int leastByQueue(Repairs repairs) {
            for (int repair = 0; repair < repairs.count; repair++) {
                queueUp(repairs, repair);
            }
            int now = 0;
            int sum = 0;
            for (int place = 0; place < repairs.count; place++) {
                now += repairs.hours[queue[place]];
                sum += repairs.penances[queue[place]] * now;
            }
            return sum;
        }

        /** Puts a repair into the queue of those with lower indices. */
        private void queueUp(Repairs repairs, int repair) {
            int place = repair;
            while (place > 0 && repairs.isBefore(repair, queue[place - 1])) {
                queue[place] = queue[place - 1];
                place--;
            }
            queue[place] = repair;
        }

        int leastBySets(Repairs repairs) {
            int sets = 1 << repairs.count;
            table[0] = 0;
            for (int set = 1; set < sets; set++) {
                table[set] = leastOfSet(repairs, set);
            }
            return table[sets - 1];
        }

        /** The least penance of a set that is done first: one of it is done last, when its hours are over. */
        private int leastOfSet(Repairs repairs, int set) {
            int end = hoursOf(repairs, set);
            int least = NONE;
            for (int last = 0; last < repairs.count; last++) {
                int bit = 1 << last;
                if ((set & bit) != 0) {
                    int penance = table[set - bit] + repairs.penances[last] * end;
                    least = least == NONE ? penance : Math.min(least, penance);
                }
            }
            return least;
        }

        private static int hoursOf(Repairs repairs, int set) {
            int sum = 0;
            for (int repair = 0; repair < repairs.count; repair++) {
                if ((set & 1 << repair) != 0) {
                    sum += repairs.hours[repair];
                }
            }
            return sum;
        }
    }

    /** The latest hours with knocks, the oldest first, and the knocks of all engines in them. */
    private static final class KnockBook {
        final int[] hours = new int[MOST_KNOCK_HOURS];
        final int[] knocks = new int[MOST_KNOCK_HOURS];
        int kept;

        void become(KnockBook other) {
            System.arraycopy(other.hours, 0, hours, 0, MOST_KNOCK_HOURS);
            System.arraycopy(other.knocks, 0, knocks, 0, MOST_KNOCK_HOURS);
            kept = other.kept;
        }

        void note(int hour, int number) {
            if (number == 0) {
                return;
            }
            if (kept == 0 || hours[kept - 1] != hour) {
                openHour(hour);
            }
            knocks[kept - 1] += number;
        }

        private void openHour(int hour) {
            if (kept == MOST_KNOCK_HOURS) {
                System.arraycopy(hours, 1, hours, 0, MOST_KNOCK_HOURS - 1);
                System.arraycopy(knocks, 1, knocks, 0, MOST_KNOCK_HOURS - 1);
                kept--;
            }
            hours[kept] = hour;
            knocks[kept] = 0;
            kept++;
        }

        /** The place of the first kept hour that is not before this one, or kept if there is none. */
        int placeFrom(int hour) {
            int place = 0;
            while (place < kept && hours[place] < hour) {
                place++;
            }
            return place;
        }
    }

    /** Everything that changes can change: it is copied whole for undo, the snapshot and trials. */
    private static final class House {
        final Engine[] engines = new Engine[MOST_ENGINES];
        // A bit for each vigil that the monk can keep.
        final int[] vigilsOf = new int[MOST_MONKS];
        final Repairs repairs = new Repairs();
        final KnockBook knockBook = new KnockBook();
        int engineCount;
        int monkCount;
        int store = FIRST_STORE;
        int initialOil = FIRST_STORE;
        int boughtOil;
        int burnedOil;
        int hour;
        int penanceDone;

        House() {
            for (int engine = 0; engine < MOST_ENGINES; engine++) {
                engines[engine] = new Engine();
            }
        }

        void become(House other) {
            for (int engine = 0; engine < other.engineCount; engine++) {
                engines[engine].become(other.engines[engine]);
            }
            System.arraycopy(other.vigilsOf, 0, vigilsOf, 0, MOST_MONKS);
            repairs.become(other.repairs);
            knockBook.become(other.knockBook);
            engineCount = other.engineCount;
            monkCount = other.monkCount;
            store = other.store;
            initialOil = other.initialOil;
            boughtOil = other.boughtOil;
            burnedOil = other.burnedOil;
            hour = other.hour;
            penanceDone = other.penanceDone;
        }

        boolean hasEngine(int engine) {
            return isWithin(engine, 0, engineCount - 1);
        }

        boolean hasCylinder(int engine, int cylinder) {
            return hasEngine(engine) && engines[engine].hasCylinder(cylinder);
        }

        // ---- what stands against a change

        int faultOfEngine(int cylinders) {
            if (!isWithin(cylinders, LEAST_CYLINDERS, MOST_CYLINDERS)) {
                return BAD_ARGUMENT;
            }
            return engineCount < MOST_ENGINES ? FINE : BAD_STATE;
        }

        int faultOfExchange(int engine, int place, int other) {
            return hasCylinder(engine, place) && hasCylinder(engine, other) ? FINE : NO_SUCH_INDEX;
        }

        int faultOfRate(int engine, int strokes) {
            if (!hasEngine(engine)) {
                return NO_SUCH_INDEX;
            }
            return isWithin(strokes, 0, MOST_RATE) ? FINE : BAD_ARGUMENT;
        }

        int faultOfRun(int engine, int strokes) {
            if (!hasEngine(engine)) {
                return NO_SUCH_INDEX;
            }
            return isWithin(strokes, 1, MOST_STROKES) ? FINE : BAD_ARGUMENT;
        }

        int faultOfOil(int engine, int cylinder, int units) {
            if (!hasCylinder(engine, cylinder)) {
                return NO_SUCH_INDEX;
            }
            if (!isWithin(units, 1, MOST_UNITS)) {
                return BAD_ARGUMENT;
            }
            return units <= store ? FINE : BAD_STATE;
        }

        int faultOfFill(int units) {
            if (!isWithin(units, 1, MOST_UNITS)) {
                return BAD_ARGUMENT;
            }
            return units <= store && engineCount > 0 ? FINE : BAD_STATE;
        }

        int faultOfPurchase(int units) {
            if (!isWithin(units, 1, MOST_UNITS)) {
                return BAD_ARGUMENT;
            }
            return store + units <= MOST_STORE ? FINE : BAD_STATE;
        }

        int faultOfMonk() {
            return monkCount < MOST_MONKS ? FINE : BAD_STATE;
        }

        int faultOfAble(int monk, int vigil) {
            boolean exist = isWithin(monk, 0, monkCount - 1) && isWithin(vigil, 0, VIGILS - 1);
            return exist ? FINE : NO_SUCH_INDEX;
        }

        int faultOfRepair(int engine, int hours, int penance) {
            if (!hasEngine(engine)) {
                return NO_SUCH_INDEX;
            }
            if (!isWithin(hours, 1, MOST_REPAIR_HOURS) || !isWithin(penance, 1, MOST_REPAIR_PENANCE)) {
                return BAD_ARGUMENT;
            }
            return repairs.count < MOST_REPAIRS ? FINE : BAD_STATE;
        }

        int faultOfRepairing() {
            return repairs.count > 0 ? FINE : BAD_STATE;
        }

        int faultOfHours(int hours) {
            return isWithin(hours, 1, MOST_HOURS) ? FINE : BAD_ARGUMENT;
        }

        /** A command has one to three numbers, or none: what is over is not used. */
        int faultOf(CommandText text, int command) {
            int first = text.numberOf(command, 0);
            int second = text.numberOf(command, 1);
            int third = text.numberOf(command, 2);
            switch (text.kinds[command]) {
                case CommandText.ENGINE: return faultOfEngine(first);
                case CommandText.SWAP: return faultOfExchange(first, second, third);
                case CommandText.RATE: return faultOfRate(first, second);
                case CommandText.RUN: return faultOfRun(first, second);
                case CommandText.OIL: return faultOfOil(first, second, third);
                case CommandText.FILL: return faultOfFill(first);
                case CommandText.BUY: return faultOfPurchase(first);
                case CommandText.MONK: return faultOfMonk();
                case CommandText.ABLE: return faultOfAble(first, second);
                case CommandText.MEND: return faultOfRepair(first, second, third);
                case CommandText.REPAIR: return faultOfRepairing();
                default: return faultOfHours(first);
            }
        }

        // ---- changes, each after its fault was found FINE

        void carryOut(CommandText text, int command) {
            int first = text.numberOf(command, 0);
            int second = text.numberOf(command, 1);
            int third = text.numberOf(command, 2);
            switch (text.kinds[command]) {
                case CommandText.ENGINE: buildEngine(first); break;
                case CommandText.SWAP: engines[first].swapPlaces(second, third); break;
                case CommandText.RATE: engines[first].changeRate(second); break;
                case CommandText.RUN: runEngine(first, second); break;
                case CommandText.OIL: giveOil(first, second, third); break;
                case CommandText.FILL: fillFromStore(first); break;
                case CommandText.BUY: buyUnits(first); break;
                case CommandText.MONK: receiveMonk(); break;
                case CommandText.ABLE: changeAble(first, second, true); break;
                case CommandText.MEND: repairs.ask(first, second, third); break;
                case CommandText.REPAIR: doFirstRepair(); break;
                default: passHours(first); break;
            }
        }

        int buildEngine(int cylinders) {
            engines[engineCount].begin(cylinders);
            initialOil += cylinders * FIRST_OIL;
            engineCount++;
            return engineCount - 1;
        }

        int runEngine(int engine, int strokes) {
            int knocked = engines[engine].turnOver(strokes);
            burnedOil += strokes - knocked;
            knockBook.note(hour, knocked);
            return knocked;
        }

        int giveOil(int engine, int cylinder, int units) {
            store -= units;
            engines[engine].oil[cylinder] += units;
            return engines[engine].oil[cylinder];
        }

        int fillFromStore(int units) {
            store -= units;
            giveToDriest(units);
            return leastOil();
        }

        /** Gives oil that is not taken from the store. */
        void giveToDriest(int units) {
            for (int unit = 0; unit < units; unit++) {
                int spot = driestSpot();
                engines[spot / MOST_CYLINDERS].oil[spot % MOST_CYLINDERS]++;
            }
        }

        /** The driest cylinder, as its engine times 8 and itself. */
        private int driestSpot() {
            int spot = 0;
            int least = NONE;
            for (int engine = 0; engine < engineCount; engine++) {
                int[] oil = engines[engine].oil;
                for (int cylinder = 0; cylinder < engines[engine].cylinders; cylinder++) {
                    if (least == NONE || oil[cylinder] < least) {
                        least = oil[cylinder];
                        spot = engine * MOST_CYLINDERS + cylinder;
                    }
                }
            }
            return spot;
        }

        int buyUnits(int units) {
            store += units;
            boughtOil += units;
            return store;
        }

        int receiveMonk() {
            vigilsOf[monkCount] = 0;
            monkCount++;
            return monkCount - 1;
        }

        boolean changeAble(int monk, int vigil, boolean isAble) {
            int bit = 1 << vigil;
            boolean before = (vigilsOf[monk] & bit) != 0;
            vigilsOf[monk] = isAble ? vigilsOf[monk] | bit : vigilsOf[monk] & ~bit;
            return before;
        }

        int doFirstRepair() {
            int first = repairs.firstOfBest();
            int engine = repairs.engines[first];
            int hours = repairs.hours[first];
            penanceDone += hours * repairs.penanceOfAnHour();
            passHours(hours);
            engines[engine].renew();
            repairs.withdraw(first);
            return engine;
        }

        int passHours(int hours) {
            int knocked = 0;
            for (int passed = 0; passed < hours; passed++) {
                hour++;
                for (int engine = 0; engine < engineCount; engine++) {
                    knocked += runEngine(engine, engines[engine].rate);
                }
            }
            return knocked;
        }

        // ---- questions about all engines

        int allCylinders() {
            int sum = 0;
            for (int engine = 0; engine < engineCount; engine++) {
                sum += engines[engine].cylinders;
            }
            return sum;
        }

        int oilInCylinders() {
            int sum = 0;
            for (int engine = 0; engine < engineCount; engine++) {
                sum += engines[engine].sumOf(engines[engine].oil);
            }
            return sum;
        }

        int leastOil() {
            int spot = driestSpot();
            return engines[spot / MOST_CYLINDERS].oil[spot % MOST_CYLINDERS];
        }

        /** Fills all cylinders up to the next higher oil as long as the units last. */
        int levelByFilling(int units) {
            int level = leastOil();
            int left = units;
            for (int rise = 0; rise < MOST_ENGINES * MOST_CYLINDERS; rise++) {
                int low = cylindersUpTo(level);
                int next = leastOilAbove(level);
                if (low == 0) {
                    return level;
                }
                if (next == NONE || left < (next - level) * low) {
                    return level + left / low;
                }
                left -= (next - level) * low;
                level = next;
            }
            return level;
        }

        private int cylindersUpTo(int level) {
            int count = 0;
            for (int engine = 0; engine < engineCount; engine++) {
                for (int cylinder = 0; cylinder < engines[engine].cylinders; cylinder++) {
                    if (engines[engine].oil[cylinder] <= level) {
                        count++;
                    }
                }
            }
            return count;
        }

        private int leastOilAbove(int level) {
            int least = NONE;
            for (int engine = 0; engine < engineCount; engine++) {
                for (int cylinder = 0; cylinder < engines[engine].cylinders; cylinder++) {
                    int units = engines[engine].oil[cylinder];
                    if (units > level && (least == NONE || units < least)) {
                        least = units;
                    }
                }
            }
            return least;
        }

        int engineOfRank(int rank) {
            for (int engine = 0; engine < engineCount; engine++) {
                if (enginesBefore(engine) == rank) {
                    return engine;
                }
            }
            return NONE;
        }

        private int enginesBefore(int engine) {
            int wear = engines[engine].sumOf(engines[engine].wear);
            int before = 0;
            for (int other = 0; other < engineCount; other++) {
                int otherWear = engines[other].sumOf(engines[other].wear);
                if (otherWear > wear || otherWear == wear && other < engine) {
                    before++;
                }
            }
            return before;
        }
    }

    /** The houses before the latest changes, in a ring. */
    private static final class Past {
        private final House[] houses = new House[MOST_CHANGES];
        private int next;
        int kept;

        Past() {
            for (int change = 0; change < MOST_CHANGES; change++) {
                houses[change] = new House();
            }
        }

        void keep(House house) {
            houses[next].become(house);
            next = (next + 1) % MOST_CHANGES;
            kept = Math.min(kept + 1, MOST_CHANGES);
        }

        /** Makes the house as it was before the latest change; asked only if one is kept. */
        int takeBack(House house) {
            next = (next + MOST_CHANGES - 1) % MOST_CHANGES;
            house.become(houses[next]);
            kept--;
            return kept;
        }

        void forget() {
            kept = 0;
        }
    }

    /** The command text, and the commands that were read from it last. */
    private static final class CommandText {
        static final int ENGINE = 0;
        static final int SWAP = 1;
        static final int RATE = 2;
        static final int RUN = 3;
        static final int OIL = 4;
        static final int FILL = 5;
        static final int BUY = 6;
        static final int MONK = 7;
        static final int ABLE = 8;
        static final int MEND = 9;
        static final int REPAIR = 10;
        static final int PASS = 11;
        private static final int KINDS = 12;

        private static final int MOST_CHARACTERS = 60;
        // "monk;" twelve times fills the text: a thirteenth command may be looked for behind it.
        private static final int MOST_COMMANDS = 13;
        private static final int MOST_NUMBERS = 3;

        private final char[] characters = new char[MOST_CHARACTERS];
        private int length;
        final int[] kinds = new int[MOST_COMMANDS];
        private final int[] numbers = new int[MOST_COMMANDS * MOST_NUMBERS];
        int commands;
        private int at;

        boolean hasRoom() {
            return length < MOST_CHARACTERS;
        }

        int add(char character) {
            characters[length] = character;
            length++;
            return length;
        }

        void empty() {
            length = 0;
        }

        int numberOf(int command, int place) {
            return numbers[command * MOST_NUMBERS + place];
        }

        /** Reads the text into commands and returns NONE, or the error position if it is no command text. */
        int read() {
            int start = 0;
            for (int command = 0; command < MOST_COMMANDS; command++) {
                int error = readCommand(command, start);
                if (error != NONE) {
                    return error;
                }
                commands = command + 1;
                if (at >= length) {
                    return NONE;
                }
                if (characters[at] != ';') {
                    return at;
                }
                start = at + 1;
            }
            return start;
        }

        /** Reads one command, so that at stands behind it, and returns NONE or the error position. */
        private int readCommand(int command, int start) {
            int furthest = start;
            for (int kind = 0; kind < KINDS; kind++) {
                at = start;
                if (fits(formOf(kind), command * MOST_NUMBERS)) {
                    kinds[command] = kind;
                    return NONE;
                }
                furthest = Math.max(furthest, at);
            }
            return furthest;
        }

        /** Moves on as far as the text has this form and keeps its numbers from a slot on; whether all was there. */
        private boolean fits(String form, int firstSlot) {
            int slot = firstSlot;
            for (int sign = 0; sign < form.length(); sign++) {
                char expected = form.charAt(sign);
                if (expected == '#' || expected == '%') {
                    if (!isDigit(at)) {
                        return false;
                    }
                    numbers[slot] = readNumber(expected == '%');
                    slot++;
                } else {
                    if (at >= length || characters[at] != expected) {
                        return false;
                    }
                    at++;
                }
            }
            return true;
        }

        private int readNumber(boolean mayHaveTwoDigits) {
            int number = characters[at] - '0';
            at++;
            if (mayHaveTwoDigits && isDigit(at)) {
                number = number * 10 + (characters[at] - '0');
                at++;
            }
            return number;
        }

        private boolean isDigit(int position) {
            return position < length && isWithin(characters[position], '0', '9');
        }

        /** A command's form: '#' is a digit, '%' a number, and all else stands for itself. */
        private static String formOf(int kind) {
            switch (kind) {
                case ENGINE: return "engine #";
                case SWAP: return "swap # ##";
                case RATE: return "rate #=#";
                case RUN: return "run #*%";
                case OIL: return "oil #.#+%";
                case FILL: return "fill %";
                case BUY: return "buy %";
                case MONK: return "monk";
                case ABLE: return "able ##";
                case MEND: return "mend # ##";
                case REPAIR: return "repair";
                default: return "pass %";
            }
        }
    }

    /** The line that was written last. */
    private static final class Line {
        // The longest line has an engine's number, ':', eight cylinders, '*' and eight times '!'.
        final char[] characters = new char[3 + 2 * MOST_CYLINDERS];
        int length;

        void empty() {
            length = 0;
        }

        void write(char character) {
            if (length < characters.length) {
                characters[length] = character;
                length++;
            }
        }

        void writeDigit(int digit) {
            write((char) ('0' + digit));
        }
    }
}
