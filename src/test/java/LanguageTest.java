import java.lang.management.ManagementFactory;
import java.lang.reflect.Executable;
import java.lang.reflect.Field;
import java.lang.reflect.Modifier;
import java.nio.file.Files;
import java.nio.file.Path;
import java.util.ArrayList;
import java.util.LinkedHashSet;
import java.util.List;
import java.util.Set;
import java.util.function.Predicate;
import java.util.regex.Matcher;
import java.util.regex.Pattern;

/** The rules of ../shared/LANGUAGE.md that the text of the class, its members and its room can show. */
public final class LanguageTest {
    private static final Path SOURCE = Path.of("src/main/java/EngineMonastery.java");
    private static final String EXCEPTIONS = "IllegalStateException|IllegalArgumentException|IndexOutOfBoundsException"
            + "|ArithmeticException|UnsupportedOperationException|NoSuchElementException|RuntimeException";
    // What the machine throws by itself, and the classes above these.
    private static final String MACHINE = "ArrayIndexOutOfBoundsException|StringIndexOutOfBoundsException"
            + "|IndexOutOfBoundsException|NullPointerException|ArithmeticException|ClassCastException"
            + "|NegativeArraySizeException|ArrayStoreException|RuntimeException|Exception|Error|Throwable";
    private static final String NUMBER_FUNCTIONS = "compare|max|min|abs|bitCount|floorDiv|floorMod|signum|sum"
            + "|numberOfLeadingZeros|numberOfTrailingZeros|highestOneBit|lowestOneBit|rotateLeft|rotateRight|reverse";
    private static final String LIBRARY = "(Integer|Long|Math)\\.(" + NUMBER_FUNCTIONS + ")|System\\.arraycopy"
            + "|Arrays\\.(copyOf|copyOfRange|fill)|List\\.of";

    public static void main(String[] args) throws Exception {
        String whole = Files.readString(SOURCE);
        String code = withoutTextsAndComments(whole);
        signs(whole);
        words(code);
        library(code);
        exceptions(code);
        methodLengths(code);
        members();
        room();
        Checks.end();
    }

    private static String withoutTextsAndComments(String whole) {
        return whole.replaceAll("(?s)/\\*.*?\\*/", "").replaceAll("\"(\\\\.|[^\"\\\\])*\"", "\"\"")
                .replaceAll("'(\\\\.|[^'\\\\])'", "' '").replaceAll("//[^\n]*", "");
    }

    private static void signs(String whole) {
        Checks.due("4: signs are 1 to 127", true, () -> whole.chars().allMatch(sign -> sign > 0 && sign < 128));
        none("1: a package line", whole, "(?m)^package\\b");
    }

    private static void words(String code) {
        none("2: a lambda or a switch with patterns", code, "->");
        none("2: a method reference", code, "::");
        none("5: a static initialiser block", code, "\\bstatic\\s*\\{");
        none("6: a word that is ruled out", code, "\\b(synchronized|assert|finally|volatile|native|transient)\\b");
        none("6: equals, hashCode or toString", code, "\\b(boolean equals|int hashCode|String toString)\\s*\\(");
        none("10: texts joined by +", code, "\"\\s*\\+|\\+\\s*\"");
    }

    private static void library(String code) {
        none("4: another import", code, "\\bimport (?!java\\.util\\.(NoSuchElementException|ArrayList|List|Arrays|Iterator);)");
        String own = String.join("|", ownNames());
        Predicate<String> isListed = Pattern.compile("(" + own + ")\\.\\w+|" + LIBRARY).asMatchPredicate();
        each(code, "\\b[A-Z][a-z]\\w*\\.\\w+", found ->
                Checks.due("4: the library that is listed: " + found, true, () -> isListed.test(found)));
        Predicate<String> mayBeMade = Pattern.compile("new (" + own + "|" + EXCEPTIONS
                + "|ArrayList|StringBuilder|String|Integer|int|long|short|byte|char|boolean|double|float)").asMatchPredicate();
        each(code, "\\bnew \\w+", found -> Checks.due("3: may be made: " + found, true, () -> mayBeMade.test(found)));
    }

    private static void exceptions(String code) {
        none("6: a throw of something else", code, "\\bthrow (?!new (" + EXCEPTIONS + ")\\(\"?\"?\\);)");
        none("6: what the machine throws is caught", code, "\\bcatch\\s*\\([^)]*\\b(" + MACHINE + ")\\b");
    }

    /** A method's head is at one of the two depths, and its last line is the brace at the same depth. */
    private static void methodLengths(String code) {
        Matcher method = Pattern.compile("(?ms)^( {4}| {8})\\w[^\n{;=]*\\([^{;=]*\\{\n.*?^\\1\\}$").matcher(code);
        int methods = 0;
        while (method.find()) {
            String text = method.group();
            methods++;
            Checks.due("11: at most sixty lines: " + text.lines().findFirst().orElse(""), true,
                    () -> text.lines().count() <= 60);
        }
        int found = methods;
        Checks.due("11: all methods are looked at", true, () -> found >= 57);
    }

    private static void members() {
        Checks.due("1: the class is public and final", true, () -> Modifier.isPublic(EngineMonastery.class.getModifiers())
                && Modifier.isFinal(EngineMonastery.class.getModifiers()));
        List<Class<?>> classes = classes();
        Checks.due("11: at most twelve classes", true, () -> classes.size() <= 12);
        for (Class<?> type : classes) {
            int fields = 0;
            for (Field field : type.getDeclaredFields()) {
                fields += Modifier.isStatic(field.getModifiers()) ? 0 : 1;
                Checks.due("5: static fields are final: " + field, true, () ->
                        !Modifier.isStatic(field.getModifiers()) || Modifier.isFinal(field.getModifiers()));
                Checks.due("3: the type of " + field, true, () -> isAllowed(field.getType(), classes));
            }
            int count = fields;
            Checks.due("11: at most twenty fields: " + type, true, () -> count <= 20);
            List<Executable> methods = new ArrayList<>(List.of(type.getDeclaredMethods()));
            methods.addAll(List.of(type.getDeclaredConstructors()));
            for (Executable method : methods) {
                Checks.due("11: at most seven parameters: " + method, true, () -> method.getParameterCount() <= 7);
            }
        }
    }

    private static boolean isAllowed(Class<?> type, List<Class<?>> classes) {
        if (type.isArray()) {
            Class<?> part = type.getComponentType();
            return part.isArray() ? part.getComponentType().isPrimitive() : part.isPrimitive() || classes.contains(part);
        }
        return type.isPrimitive() || classes.contains(type)
                || List.of(String.class, StringBuilder.class, Integer.class, ArrayList.class, List.class).contains(type);
    }

    private static List<Class<?>> classes() {
        List<Class<?>> classes = new ArrayList<>(List.of(EngineMonastery.class.getDeclaredClasses()));
        classes.add(EngineMonastery.class);
        return classes;
    }

    private static Set<String> ownNames() {
        Set<String> names = new LinkedHashSet<>();
        for (Class<?> type : classes()) {
            names.add(type.getSimpleName());
        }
        return names;
    }

    /** One room holds all objects of a run: the rows are made with the object, and no call makes more of them. */
    private static void room() {
        EngineMonastery m = new EngineMonastery();
        // The first calls let the machine load what it needs.
        for (int round = 0; round < 6; round++) {
            everyCall(m);
        }
        com.sun.management.ThreadMXBean threads =
                (com.sun.management.ThreadMXBean) ManagementFactory.getThreadMXBean();
        long start = threads.getCurrentThreadAllocatedBytes();
        long between = threads.getCurrentThreadAllocatedBytes();
        everyCall(m);
        long end = threads.getCurrentThreadAllocatedBytes();
        Checks.due("12: no call makes an object", between - start, () -> end - between);
    }

    /** Each call of the face, none of them refused; afterwards the object is as it was. */
    private static void everyCall(EngineMonastery m) {
        m.save();
        int engine = m.addEngine(8);
        m.exchange(engine, 1, 5);
        m.setRate(engine, 9);
        int monk = m.addMonk();
        m.setAble(monk, 3, true);
        m.buyOil(9);
        m.run(engine, 50);
        m.oil(engine, 2, 3);
        m.oilDriest(20);
        m.addRepair(engine, 4, 5);
        m.addRepair(engine, 2, 3);
        m.addRepair(engine, 9, 9);
        m.removeRepair(2);
        m.pass(3);
        m.repair();
        m.append('m');
        m.append('o');
        m.append('n');
        m.append('k');
        m.execute();
        questions(m, engine);
        m.undo();
        m.restore();
    }

    private static void questions(EngineMonastery m, int engine) {
        m.dueAfter(engine, m.engineCount() + m.cylinderCount(engine));
        m.dueAfterByStrokes(engine, 9999);
        m.turnOf(engine);
        m.turnByRepeating(m.engineAtRank(0));
        m.evenness(engine);
        m.evenOrders(engine, 1);
        m.evenOrdersByTrying(engine, 1);
        m.leastOilAfter(999);
        m.leastOilAfterByGiving(999);
        m.orderAt(engine, m.oilOf(engine, 0) * 0 + m.wearOf(engine, 1) * 0);
        m.knockAt(engine, m.knockCount(engine) - 1);
        m.knockPeriod(engine);
        m.knockPeriodByTrying(engine);
        m.keeperOf(3);
        m.mostVigils();
        m.mostVigilsByTable();
        m.leastPenance();
        m.leastPenanceByTable();
        m.knocksIn(m.hourOfKnocks(0));
        m.describeEngine(engine);
        m.lineAt(m.describeRota() - 1);
        m.meanOil();
        m.vigilShare();
        m.isConsistent();
    }

    private interface Found {
        void look(String text);
    }

    private static void each(String code, String pattern, Found found) {
        Matcher matcher = Pattern.compile(pattern).matcher(code);
        while (matcher.find()) {
            found.look(matcher.group());
        }
    }

    private static void none(String what, String code, String pattern) {
        Matcher matcher = Pattern.compile(pattern).matcher(code);
        Checks.due(what, "none", () -> matcher.find() ? "'" + matcher.group() + "' at " + matcher.start() : "none");
    }
}
