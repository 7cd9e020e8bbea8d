import java.lang.reflect.InvocationTargetException;
import java.lang.reflect.Method;
import java.lang.reflect.Modifier;
import java.util.ArrayList;
import java.util.Arrays;
import java.util.Collections;
import java.util.Comparator;
import java.util.List;
import java.util.Random;

/** Long runs of chosen calls, the same ones each time, on the class and on the model: all answers are equal. */
public final class ModelTest {
    private static final int RUNS = 400;
    // The document promises nothing about later calls.
    private static final int CALLS = 512;
    private static final int QUESTIONS = 160;
    private static final String[] COMMANDS = {
        "engine 3", "engine 4", "engine 8", "swap 0 12", "swap 1 02", "rate 0=4", "rate 1=9", "rate 2=1",
        "run 0*9", "run 1*40", "run 0*99", "oil 0.1+5", "oil 1.0+12", "fill 7", "fill 30", "buy 25", "buy 9",
        "monk", "able 00", "able 13", "able 25", "mend 0 12", "mend 1 91", "mend 0 34", "repair", "pass 1",
        "pass 10", "pass 0", "engine 9", "engine 2", "swap 0 09", "rate 3=0", "run 0*0", "fill 00", "able 78"};
    // Calls that change much stand several times, so that they come more often.
    private static final String[] MORE = {
        "addEngine", "addMonk", "setAble", "setAble", "setAble", "setAble", "setAble", "run", "run", "run",
        "oil", "oilDriest", "buyOil", "exchange", "exchange", "setRate", "setRate", "pass", "pass", "addRepair",
        "addRepair", "addRepair", "repair", "undo", "undo", "undo", "save", "isConsistent", "keeperOf",
        "describeEngine", "describeRota"};

    public static void main(String[] args) {
        for (int run = 0; run < RUNS; run++) {
            if (!isAlike(run)) {
                System.exit(1);
            }
        }
        System.out.println(RUNS + " runs of " + CALLS + " calls are alike");
    }

    /** Every other run ends with questions alone, so that no part of the state is left out. */
    private static boolean isAlike(int run) {
        int questions = run % 2 * QUESTIONS;
        Random chosen = new Random(run);
        EngineMonastery monastery = new EngineMonastery();
        Model model = new Model();
        List<Method> methods = faceMethods();
        List<String> trace = new ArrayList<>();
        String commands = "";
        for (int call = 0; call < CALLS - questions; call++) {
            Method method;
            Object[] parameters;
            if (commands.isEmpty() && chosen.nextInt(60) == 0) {
                commands = commandText(chosen) + "\n";
            }
            if (!commands.isEmpty()) {
                boolean isWhole = commands.charAt(0) == '\n';
                method = named(methods, isWhole ? "execute" : "append");
                parameters = isWhole ? new Object[0] : new Object[] {commands.charAt(0)};
                commands = commands.substring(1);
            } else {
                method = chosen.nextInt(3) == 0
                        ? methods.get(chosen.nextInt(methods.size()))
                        : named(methods, MORE[chosen.nextInt(MORE.length)]);
                parameters = parametersOf(method, chosen);
            }
            Object got = answer(monastery, method, parameters);
            Object due = answer(model, method, parameters);
            trace.add(method.getName() + Arrays.toString(parameters) + " = " + got);
            if (!got.equals(due)) {
                System.out.println("run " + run + ": " + String.join("\n", trace) + "\ndue is " + due);
                return false;
            }
        }
        return questionsAreAlike(run, monastery, model, questions(methods, chosen).subList(0, questions));
    }

    private static final class Question {
        final Method method;
        final Object[] parameters;

        Question(Method method, Object[] parameters) {
            this.method = method;
            this.parameters = parameters;
        }
    }

    /** All that can be asked about the state, in a chosen order. */
    private static List<Question> questions(List<Method> methods, Random chosen) {
        List<Question> questions = new ArrayList<>();
        for (Method method : methods) {
            if (!method.getName().matches(".*(Count|At|Of|In|Rank|Period|allOil|hour|Done|Knocks|Command|Position)")) {
                continue;
            }
            int count = method.getParameterCount();
            int first = count > 1 ? 6 : count > 0 ? 40 : 1;
            int second = count > 1 ? 26 : 1;
            for (int parameter = 0; parameter < first * second; parameter++) {
                Object[] parameters = new Object[] {parameter / second - 1, parameter % second - 1};
                questions.add(new Question(method, Arrays.copyOf(parameters, count)));
            }
        }
        Collections.shuffle(questions, chosen);
        return questions;
    }

    private static boolean questionsAreAlike(int run, Object monastery, Object model, List<Question> questions) {
        for (Question question : questions) {
            Object got = answer(monastery, question.method, question.parameters);
            Object due = answer(model, question.method, question.parameters);
            if (!got.equals(due)) {
                System.out.println("run " + run + " at its end: " + question.method.getName()
                        + Arrays.toString(question.parameters) + " = " + got + ", due is " + due);
                return false;
            }
        }
        return true;
    }

    private static List<Method> faceMethods() {
        List<Method> methods = new ArrayList<>();
        for (Method method : EngineMonastery.class.getDeclaredMethods()) {
            if (Modifier.isPublic(method.getModifiers())) {
                methods.add(method);
            }
        }
        methods.sort(Comparator.comparing(Method::getName));
        return methods;
    }

    private static Method named(List<Method> methods, String name) {
        for (Method method : methods) {
            if (method.getName().equals(name)) {
                return method;
            }
        }
        throw new IllegalArgumentException(name);
    }

    private static Object[] parametersOf(Method method, Random chosen) {
        Class<?>[] types = method.getParameterTypes();
        Object[] parameters = new Object[types.length];
        for (int place = 0; place < types.length; place++) {
            if (types[place] == boolean.class) {
                parameters[place] = chosen.nextInt(3) > 0;
            } else if (types[place] == char.class) {
                parameters[place] = (char) (chosen.nextInt(4) > 0 ? 32 + chosen.nextInt(95) : chosen.nextInt(300));
            } else {
                parameters[place] = number(method.getName(), place, chosen);
            }
        }
        return parameters;
    }

    private static int number(String name, int place, Random chosen) {
        if (chosen.nextInt(25) == 0) {
            int[] edges = {-1, 0, 1, 3, 4, 5, 6, 7, 8, 9, 10, 24, 47, 48, 49, 99, 100, 999, 1000, 9999, 10000,
                Integer.MAX_VALUE, Integer.MIN_VALUE, Integer.MAX_VALUE - 3};
            return edges[chosen.nextInt(edges.length)];
        }
        if (name.equals("addEngine")) {
            return 3 + chosen.nextInt(6);
        }
        if (name.equals("addRepair") && place > 0) {
            return 1 + chosen.nextInt(9);
        }
        if (name.matches("oilDriest|buyOil") || name.equals("run") && place == 1) {
            return chosen.nextInt(60);
        }
        if (name.equals("oil") && place == 2) {
            return 1 + chosen.nextInt(20);
        }
        if (name.equals("pass")) {
            return 1 + chosen.nextInt(14);
        }
        if (name.matches("setAble|keeperOf") && (place == 1 || name.equals("keeperOf"))) {
            return chosen.nextInt(8);
        }
        if (name.matches("leastOilAfter.*|dueAfter.*") && (place == 1 || name.startsWith("least"))) {
            return chosen.nextInt(1000);
        }
        if (name.matches("knocksIn|hourOfKnocks|knockAt|lineAt") && (place == 1 || !name.equals("knockAt"))) {
            return chosen.nextInt(40);
        }
        return place == 0 ? chosen.nextInt(5) : chosen.nextInt(9);
    }

    private static String commandText(Random chosen) {
        StringBuilder text = new StringBuilder();
        int number = 1 + chosen.nextInt(6);
        for (int command = 0; command < number; command++) {
            text.append(command == 0 ? "" : ";").append(COMMANDS[chosen.nextInt(COMMANDS.length)]);
        }
        if (chosen.nextInt(3) == 0) {
            text.setCharAt(chosen.nextInt(text.length()), " ;0129abemnoprsu=*.+~".charAt(chosen.nextInt(21)));
        }
        if (chosen.nextInt(5) == 0) {
            text.setLength(chosen.nextInt(text.length() + 1));
        }
        return text.toString();
    }

    private static Object answer(Object asked, Method method, Object[] parameters) {
        try {
            return asked.getClass().getMethod(method.getName(), method.getParameterTypes()).invoke(asked, parameters);
        } catch (InvocationTargetException thrown) {
            return "throws " + thrown.getCause().getClass().getName();
        } catch (ReflectiveOperationException wrong) {
            throw new IllegalStateException(wrong);
        }
    }
}
