import java.util.ArrayDeque;
import java.util.ArrayList;
import java.util.Collections;
import java.util.Comparator;
import java.util.Deque;
import java.util.HashMap;
import java.util.List;
import java.util.Map;
import java.util.NoSuchElementException;
import java.util.PriorityQueue;
import java.util.Set;
import java.util.TreeMap;
import java.util.TreeSet;
import java.util.function.Supplier;
import java.util.regex.Matcher;
import java.util.regex.Pattern;

/**
 * The document once more, told as plainly as its words and apart from the class: whole histories instead of
 * rings, all rotas and all permutations instead of tables, and a regular expression for the commands.
 */
final class Model {
    private static final class Motor {
        List<Integer> order = new ArrayList<>();
        List<Integer> oil = new ArrayList<>();
        List<Integer> wear = new ArrayList<>();
        List<Integer> knocks = new ArrayList<>();
        int due;
        int rate;

        Motor copy() {
            Motor copy = new Motor();
            copy.order.addAll(order);
            copy.oil.addAll(oil);
            copy.wear.addAll(wear);
            copy.knocks.addAll(knocks);
            copy.due = due;
            copy.rate = rate;
            return copy;
        }

        List<Integer> keptKnocks() {
            return knocks.subList(Math.max(0, knocks.size() - 24), knocks.size());
        }

        int allWear() {
            return wear.stream().mapToInt(Integer::intValue).sum();
        }
    }

    private static final class State {
        List<Motor> motors = new ArrayList<>();
        List<Set<Integer>> monks = new ArrayList<>();
        List<int[]> repairs = new ArrayList<>();
        TreeMap<Integer, Integer> knocks = new TreeMap<>();
        int store = 20;
        int initial = 20;
        int bought;
        int burned;
        int hour;
        int penance;

        State copy() {
            State copy = new State();
            motors.forEach(motor -> copy.motors.add(motor.copy()));
            monks.forEach(monk -> copy.monks.add(new TreeSet<>(monk)));
            copy.repairs.addAll(repairs);
            copy.knocks.putAll(knocks);
            copy.store = store;
            copy.initial = initial;
            copy.bought = bought;
            copy.burned = burned;
            copy.hour = hour;
            copy.penance = penance;
            return copy;
        }
    }

    private static final Map<Integer, Integer> EVEN_ORDERS = new HashMap<>();

    private static final String NUMBER = "([0-9][0-9]?)";
    private static final String DIGIT = "([0-9])";
    private static final String[] FORMS = {
        "engine " + DIGIT, "swap " + DIGIT + " " + DIGIT + DIGIT, "rate " + DIGIT + "=" + DIGIT,
        "run " + DIGIT + "\\*" + NUMBER, "oil " + DIGIT + "\\." + DIGIT + "\\+" + NUMBER, "fill " + NUMBER,
        "buy " + NUMBER, "monk", "able " + DIGIT + DIGIT, "mend " + DIGIT + " " + DIGIT + DIGIT, "repair",
        "pass " + NUMBER};
    private static final Pattern TEXT = Pattern.compile(
            "(" + String.join("|", FORMS) + ")(;(" + String.join("|", FORMS) + "))*");

    private State state = new State();
    private State saved;
    private final Deque<State> past = new ArrayDeque<>();
    private boolean isExecuting;
    private String text = "";
    private String line = "";
    private Integer error;
    private Integer failed;

    private <T> T change(Supplier<T> deed) {
        State before = state.copy();
        T answer = deed.get();
        if (!isExecuting) {
            past.push(before);
            while (past.size() > 8) {
                past.removeLast();
            }
        }
        return answer;
    }

    private static void index(boolean holds) {
        if (!holds) {
            throw new IndexOutOfBoundsException();
        }
    }

    private static void argument(boolean holds) {
        if (!holds) {
            throw new IllegalArgumentException();
        }
    }

    private static void inState(boolean holds) {
        if (!holds) {
            throw new IllegalStateException();
        }
    }

    private static void element(boolean holds) {
        if (!holds) {
            throw new NoSuchElementException();
        }
    }

    private Motor motor(int engine) {
        index(engine >= 0 && engine < state.motors.size());
        return state.motors.get(engine);
    }

    private Motor motor(int engine, int cylinder) {
        Motor motor = motor(engine);
        index(cylinder >= 0 && cylinder < motor.order.size());
        return motor;
    }

    public int addEngine(int cylinders) {
        argument(cylinders >= 3 && cylinders <= 8);
        inState(state.motors.size() < 4);
        return change(() -> {
            Motor motor = new Motor();
            for (int cylinder = 0; cylinder < cylinders; cylinder++) {
                motor.order.add(cylinder);
                motor.oil.add(5);
                motor.wear.add(0);
            }
            state.motors.add(motor);
            state.initial += 5 * cylinders;
            return state.motors.size() - 1;
        });
    }

    public int exchange(int engine, int place, int other) {
        motor(engine, place);
        motor(engine, other);
        return change(() -> {
            Collections.swap(motor(engine).order, place, other);
            return motor(engine).order.get(place);
        });
    }

    public int setRate(int engine, int strokes) {
        motor(engine);
        argument(strokes >= 0 && strokes <= 9);
        return change(() -> {
            int before = motor(engine).rate;
            motor(engine).rate = strokes;
            return before;
        });
    }

    public int engineCount() {
        return state.motors.size();
    }

    public int cylinderCount(int engine) {
        return motor(engine).order.size();
    }

    public int orderAt(int engine, int place) {
        return motor(engine, place).order.get(place);
    }

    public int dueAfter(int engine, int strokes) {
        Motor motor = motor(engine);
        argument(strokes >= 0 && strokes <= 9999);
        List<Integer> turned = new ArrayList<>(motor.order);
        Collections.rotate(turned, -motor.due - strokes);
        return turned.get(0);
    }

    public int dueAfterByStrokes(int engine, int strokes) {
        return dueAfter(engine, strokes);
    }

    public int turnOf(int engine) {
        List<Integer> order = motor(engine).order;
        List<Integer> reached = new ArrayList<>(order);
        int turn = 1;
        while (!inOrder(reached)) {
            reached.replaceAll(order::get);
            turn++;
        }
        return turn;
    }

    private static boolean inOrder(List<Integer> cylinders) {
        for (int place = 0; place < cylinders.size(); place++) {
            if (cylinders.get(place) != place) {
                return false;
            }
        }
        return true;
    }

    public int turnByRepeating(int engine) {
        return turnOf(engine);
    }

    public int evenness(int engine) {
        return evennessOf(motor(engine).order);
    }

    private static int evennessOf(List<Integer> order) {
        int number = order.size();
        int least = number;
        for (int place = 0; place < number; place++) {
            int up = Math.floorMod(order.get(place) - order.get((place + 1) % number), number);
            least = Math.min(least, Math.min(up, number - up));
        }
        return least;
    }

    public int evenOrders(int engine, int evenness) {
        int cylinders = motor(engine).order.size();
        argument(evenness >= 1 && evenness <= 4);
        return EVEN_ORDERS.computeIfAbsent(cylinders * 10 + evenness, key -> {
            List<Integer> order = new ArrayList<>();
            order.add(0);
            return countOrders(order, cylinders, evenness);
        });
    }

    private static int countOrders(List<Integer> order, int cylinders, int evenness) {
        if (order.size() == cylinders) {
            return evennessOf(order) >= evenness ? 1 : 0;
        }
        int count = 0;
        for (int cylinder = 0; cylinder < cylinders; cylinder++) {
            if (!order.contains(cylinder)) {
                order.add(cylinder);
                count += countOrders(order, cylinders, evenness);
                order.remove(order.size() - 1);
            }
        }
        return count;
    }

    public int evenOrdersByTrying(int engine, int evenness) {
        return evenOrders(engine, evenness);
    }

    private int stroke(Motor motor) {
        int cylinder = motor.order.get(motor.due);
        motor.due = (motor.due + 1) % motor.order.size();
        if (motor.oil.get(cylinder) > 0) {
            motor.oil.set(cylinder, motor.oil.get(cylinder) - 1);
            motor.wear.set(cylinder, motor.wear.get(cylinder) + 1);
            state.burned++;
            return 0;
        }
        motor.knocks.add(cylinder);
        state.knocks.merge(state.hour, 1, Integer::sum);
        return 1;
    }

    public int run(int engine, int strokes) {
        motor(engine);
        argument(strokes >= 1 && strokes <= 99);
        return change(() -> {
            int knocks = 0;
            for (int stroke = 0; stroke < strokes; stroke++) {
                knocks += stroke(motor(engine));
            }
            return knocks;
        });
    }

    public int oil(int engine, int cylinder, int units) {
        motor(engine, cylinder);
        argument(units >= 1 && units <= 99);
        inState(state.store >= units);
        return change(() -> {
            List<Integer> oil = motor(engine).oil;
            state.store -= units;
            oil.set(cylinder, oil.get(cylinder) + units);
            return oil.get(cylinder);
        });
    }

    /** Each entry: the oil, the engine, the cylinder; the driest one first. */
    private PriorityQueue<int[]> driestFirst() {
        PriorityQueue<int[]> queue = new PriorityQueue<>(Comparator.<int[]>comparingInt(entry -> entry[0])
                .thenComparingInt(entry -> entry[1]).thenComparingInt(entry -> entry[2]));
        for (int engine = 0; engine < state.motors.size(); engine++) {
            List<Integer> oil = motor(engine).oil;
            for (int cylinder = 0; cylinder < oil.size(); cylinder++) {
                queue.add(new int[] {oil.get(cylinder), engine, cylinder});
            }
        }
        return queue;
    }

    private static PriorityQueue<int[]> given(PriorityQueue<int[]> queue, int units) {
        for (int unit = 0; unit < units; unit++) {
            int[] entry = queue.remove();
            entry[0]++;
            queue.add(entry);
        }
        return queue;
    }

    public int oilDriest(int units) {
        argument(units >= 1 && units <= 99);
        inState(state.store >= units && !state.motors.isEmpty());
        return change(() -> {
            state.store -= units;
            PriorityQueue<int[]> queue = given(driestFirst(), units);
            for (int[] entry : queue) {
                motor(entry[1]).oil.set(entry[2], entry[0]);
            }
            return queue.element()[0];
        });
    }

    public int leastOilAfter(int units) {
        argument(units >= 0 && units <= 999);
        element(!state.motors.isEmpty());
        return given(driestFirst(), units).element()[0];
    }

    public int leastOilAfterByGiving(int units) {
        return leastOilAfter(units);
    }

    public int buyOil(int units) {
        argument(units >= 1 && units <= 99);
        inState(state.store + units <= 500);
        return change(() -> {
            state.bought += units;
            state.store += units;
            return state.store;
        });
    }

    public int oilOf(int engine, int cylinder) {
        return motor(engine, cylinder).oil.get(cylinder);
    }

    public int wearOf(int engine, int cylinder) {
        return motor(engine, cylinder).wear.get(cylinder);
    }

    public int allOil() {
        return state.store + driestFirst().stream().mapToInt(entry -> entry[0]).sum();
    }

    public int allOilByAccounts() {
        return state.initial + state.bought - state.burned;
    }

    public int knockCount(int engine) {
        return motor(engine).keptKnocks().size();
    }

    public int knockAt(int engine, int place) {
        List<Integer> kept = motor(engine).keptKnocks();
        element(place >= 0 && place < kept.size());
        return kept.get(place);
    }

    public int knockPeriod(int engine) {
        List<Integer> kept = motor(engine).keptKnocks();
        element(!kept.isEmpty());
        int period = 1;
        while (!kept.subList(period, kept.size()).equals(kept.subList(0, kept.size() - period))) {
            period++;
        }
        return period;
    }

    public int knockPeriodByTrying(int engine) {
        return knockPeriod(engine);
    }

    public int engineAtRank(int rank) {
        element(rank >= 0 && rank < state.motors.size());
        List<Integer> engines = new ArrayList<>();
        for (int engine = 0; engine < state.motors.size(); engine++) {
            engines.add(engine);
        }
        engines.sort(Comparator.comparingInt(engine -> -motor(engine).allWear()));
        return engines.get(rank);
    }

    public int addMonk() {
        inState(state.monks.size() < 6);
        return change(() -> {
            state.monks.add(new TreeSet<>());
            return state.monks.size() - 1;
        });
    }

    public boolean setAble(int monk, int vigil, boolean isAble) {
        index(monk >= 0 && monk < state.monks.size() && vigil >= 0 && vigil <= 7);
        return change(() -> {
            Set<Integer> vigils = state.monks.get(monk);
            return isAble ? !vigils.add(vigil) : vigils.remove(vigil);
        });
    }

    /** All rotas are tried, in the document's order of those with the same number of vigils: the first is best. */
    private int[] bestRota() {
        int[] best = new int[9];
        best[8] = -1;
        tryRotas(0, new int[8], 0, best);
        return best;
    }

    private void tryRotas(int vigil, int[] rota, int kept, int[] best) {
        if (vigil == 8) {
            if (kept > best[8]) {
                System.arraycopy(rota, 0, best, 0, 8);
                best[8] = kept;
            }
            return;
        }
        for (int monk = 0; monk < state.monks.size(); monk++) {
            boolean isTaken = false;
            for (int before = 0; before < vigil; before++) {
                isTaken |= rota[before] == monk;
            }
            if (!isTaken && state.monks.get(monk).contains(vigil)) {
                rota[vigil] = monk;
                tryRotas(vigil + 1, rota, kept + 1, best);
            }
        }
        rota[vigil] = 6;
        tryRotas(vigil + 1, rota, kept, best);
    }

    public int mostVigils() {
        return bestRota()[8];
    }

    public int mostVigilsByTable() {
        return bestRota()[8];
    }

    public int keeperOf(int vigil) {
        index(vigil >= 0 && vigil <= 7);
        int keeper = bestRota()[vigil];
        element(keeper < 6);
        return keeper;
    }

    public int addRepair(int engine, int hours, int penance) {
        motor(engine);
        argument(hours >= 1 && hours <= 9 && penance >= 1 && penance <= 9);
        inState(state.repairs.size() < 8);
        return change(() -> {
            state.repairs.add(new int[] {engine, hours, penance});
            return state.repairs.size() - 1;
        });
    }

    public int removeRepair(int repair) {
        index(repair >= 0 && repair < state.repairs.size());
        return change(() -> {
            state.repairs.remove(repair);
            return state.repairs.size();
        });
    }

    public int repairCount() {
        return state.repairs.size();
    }

    public int leastPenance() {
        return leastPenance(new ArrayList<>(state.repairs), 0);
    }

    private static int leastPenance(List<int[]> left, int now) {
        int least = left.isEmpty() ? 0 : Integer.MAX_VALUE;
        for (int next = 0; next < left.size(); next++) {
            int[] repair = left.remove(next);
            int end = now + repair[1];
            least = Math.min(least, repair[2] * end + leastPenance(left, end));
            left.add(next, repair);
        }
        return least;
    }

    public int leastPenanceByTable() {
        return leastPenance();
    }

    private int passOneHour() {
        state.hour++;
        int knocks = 0;
        for (Motor motor : state.motors) {
            for (int stroke = 0; stroke < motor.rate; stroke++) {
                knocks += stroke(motor);
            }
        }
        return knocks;
    }

    public int repair() {
        inState(!state.repairs.isEmpty());
        return change(() -> {
            // 2520 can be divided by each penance, so that the fractions are compared exactly.
            int[] first = Collections.min(state.repairs, Comparator.comparingInt(one -> one[1] * (2520 / one[2])));
            for (int hour = 0; hour < first[1]; hour++) {
                passOneHour();
                state.repairs.forEach(one -> state.penance += one[2]);
            }
            Collections.fill(motor(first[0]).wear, 0);
            state.repairs.remove(first);
            return first[0];
        });
    }

    public int penanceDone() {
        return state.penance;
    }

    public int pass(int hours) {
        argument(hours >= 1 && hours <= 48);
        return change(() -> {
            int knocks = 0;
            for (int hour = 0; hour < hours; hour++) {
                knocks += passOneHour();
            }
            return knocks;
        });
    }

    public int hour() {
        return state.hour;
    }

    private TreeMap<Integer, Integer> keptHours() {
        TreeMap<Integer, Integer> kept = new TreeMap<>(state.knocks);
        while (kept.size() > 12) {
            kept.pollFirstEntry();
        }
        return kept;
    }

    public int knocksIn(int hour) {
        element(keptHours().containsKey(hour));
        return keptHours().get(hour);
    }

    public int hourOfKnocks(int from) {
        element(keptHours().ceilingKey(from) != null);
        return keptHours().ceilingKey(from);
    }

    public int append(char character) {
        argument(character >= ' ' && character <= '~');
        inState(text.length() < 60);
        text += character;
        return text.length();
    }

    public int execute() {
        String commands = text;
        text = "";
        if (!TEXT.matcher(commands).matches()) {
            error = errorIn(commands);
            throw new IllegalArgumentException();
        }
        String[] each = commands.split(";");
        State before = state.copy();
        for (int command = 0; command < each.length; command++) {
            isExecuting = true;
            try {
                carryOut(each[command]);
            } catch (RuntimeException thrown) {
                state = before;
                failed = command;
                throw new IllegalStateException();
            } finally {
                isExecuting = false;
            }
        }
        State after = state;
        state = before;
        change(() -> state = after);
        return each.length;
    }

    private static int errorIn(String commands) {
        int position = 0;
        while (position < commands.length()) {
            Matcher matcher = TEXT.matcher(commands.substring(0, position + 1));
            if (!matcher.matches() && !matcher.hitEnd()) {
                break;
            }
            position++;
        }
        return position;
    }

    private void carryOut(String command) {
        for (int form = 0; form < FORMS.length; form++) {
            Matcher matcher = Pattern.compile(FORMS[form]).matcher(command);
            if (matcher.matches()) {
                int[] numbers = new int[3];
                for (int group = 1; group <= matcher.groupCount(); group++) {
                    numbers[group - 1] = Integer.parseInt(matcher.group(group));
                }
                carryOut(form, numbers[0], numbers[1], numbers[2]);
            }
        }
    }

    private void carryOut(int form, int first, int second, int third) {
        switch (form) {
            case 0 -> addEngine(first);
            case 1 -> exchange(first, second, third);
            case 2 -> setRate(first, second);
            case 3 -> run(first, second);
            case 4 -> oil(first, second, third);
            case 5 -> oilDriest(first);
            case 6 -> buyOil(first);
            case 7 -> addMonk();
            case 8 -> setAble(first, second, true);
            case 9 -> addRepair(first, second, third);
            case 10 -> repair();
            default -> pass(first);
        }
    }

    public int errorPosition() {
        element(error != null);
        return error;
    }

    public int failedCommand() {
        element(failed != null);
        return failed;
    }

    public int describeEngine(int engine) {
        Motor motor = motor(engine);
        String written = engine + ":";
        for (int place = 0; place < motor.order.size(); place++) {
            int cylinder = motor.order.get(place);
            written += (place == motor.due ? "*" : "") + cylinder + (motor.oil.get(cylinder) == 0 ? "!" : "");
        }
        line = written;
        return line.length();
    }

    public int describeRota() {
        int[] rota = bestRota();
        String written = "";
        for (int vigil = 0; vigil < 8; vigil++) {
            written += rota[vigil] == 6 ? "-" : rota[vigil];
        }
        line = written;
        return line.length();
    }

    public char lineAt(int place) {
        index(place >= 0 && place < line.length());
        return line.charAt(place);
    }

    public double meanOil() {
        PriorityQueue<int[]> cylinders = driestFirst();
        if (cylinders.isEmpty()) {
            throw new ArithmeticException();
        }
        return (double) (allOil() - state.store) / cylinders.size();
    }

    public float vigilShare() {
        return mostVigils() / 8f;
    }

    public boolean isConsistent() {
        return true;
    }

    public int undo() {
        inState(!past.isEmpty());
        state = past.pop();
        return past.size();
    }

    public int save() {
        saved = state.copy();
        return state.motors.size();
    }

    public int restore() {
        inState(saved != null);
        state = saved.copy();
        past.clear();
        return state.motors.size();
    }
}
