/** What the tests of boundary cases have in common: the sentence, scenes to call on, and refused calls. */
abstract class Boundaries {
    static final String INDEX = "throws java.lang.IndexOutOfBoundsException";
    static final String ARGUMENT = "throws java.lang.IllegalArgumentException";
    static final String STATE = "throws java.lang.IllegalStateException";
    static final String ELEMENT = "throws java.util.NoSuchElementException";
    static final String ARITHMETIC = "throws java.lang.ArithmeticException";

    /** Makes an object, each time in the same way. */
    interface Scene {
        EngineMonastery make();
    }

    interface Act {
        Object on(EngineMonastery m);
    }

    interface NumberAct {
        Object on(EngineMonastery m, int number);
    }

    static final Scene EMPTY = EngineMonastery::new;

    /** As quiet("mo", "buy 1;repair"), and "mo" is in the command text. */
    static final Scene BUSY = () -> {
        EngineMonastery m = quiet("mo", "buy 1;repair");
        write(m, "mo");
        return m;
    };

    /**
     * Two engines with 4 and 3 cylinders, two monks, three repairs, 43 units in the store, more than eight changes, a
     * snapshot that differs, a line, and the error position and the failed command of these texts.
     */
    static EngineMonastery quiet(String noCommands, String failing) {
        EngineMonastery m = new EngineMonastery();
        executed(m, noCommands);
        executed(m, failing);
        m.addEngine(4);
        m.addEngine(3);
        m.exchange(0, 1, 3);
        m.setRate(0, 2);
        m.setRate(1, 1);
        m.buyOil(30);
        m.addMonk();
        m.addMonk();
        m.setAble(0, 3, true);
        m.setAble(0, 5, true);
        m.setAble(1, 3, true);
        m.run(0, 22);
        m.run(1, 17);
        m.oil(0, 2, 4);
        m.pass(3);
        m.addRepair(0, 3, 2);
        m.addRepair(1, 2, 5);
        m.save();
        m.addRepair(0, 1, 9);
        m.exchange(1, 0, 2);
        m.pass(2);
        m.oilDriest(3);
        m.describeEngine(0);
        return m;
    }

    /**
     * Four engines with eight cylinders, six monks, eight repairs, 500 units in the store, a text of 60 characters, 24
     * kept knocks of each engine, and 12 hours with knocks behind one that is not kept. No snapshot.
     */
    static final Scene FULL = () -> {
        EngineMonastery m = new EngineMonastery();
        for (int engine = 0; engine < 4; engine++) {
            m.addEngine(8);
            m.setRate(engine, engine + 1);
            m.run(engine, 99);
        }
        for (int monk = 0; monk < 6; monk++) {
            m.addMonk();
            m.setAble(monk, 0, true);
            m.setAble(monk, monk + 1, true);
        }
        for (int repair = 0; repair < 8; repair++) {
            m.addRepair(repair % 4, repair + 1, 9 - repair);
        }
        m.pass(12);
        for (int times = 0; times < 4; times++) {
            m.buyOil(99);
        }
        m.buyOil(84);
        write(m, "xxxxxxxxxxxxxxxxxxxxxxxxxxxxxxxxxxxxxxxxxxxxxxxxxxxxxxxxxxxx");
        return m;
    };

    /** An engine with 3 cylinders, nothing in the store, and no knock. */
    static final Scene DRY = () -> {
        EngineMonastery m = with(3);
        m.oil(0, 1, 20);
        return m;
    };

    /** As the snapshot of BUSY, so that no change can be undone. */
    static final Scene RESTORED = () -> {
        EngineMonastery m = BUSY.make();
        m.restore();
        return m;
    };

    private static String heading = "";
    private static String told = "";

    /** The heading under which the sentences that follow stand. */
    static void under(String start) {
        heading = start;
    }

    /** Begins the test of one sentence of the document. */
    static void says(String sentence) {
        told = Sentences.test(heading, sentence);
    }

    static void due(Object due, Checks.Call call) {
        Checks.due(told, due, call);
    }

    /** A refused call throws exactly this, and nothing has changed afterwards. */
    static void refused(String exception, Scene scene, Act act) {
        Checks.due(told, exception, () -> act.on(scene.make()));
        Checks.due(told + " - and nothing has changed", true, () -> Watch.changesNothing(scene, act));
    }

    /** Refused on both sides of what is allowed, just beside it and far away. */
    static void refusedBeside(int least, int most, String exception, Scene scene, NumberAct act) {
        int[] outside = {least - 1, most + 1, least - 2, most + 2, most + 32, most + 256, Integer.MIN_VALUE,
            Integer.MIN_VALUE + 1, Integer.MAX_VALUE - 1, Integer.MAX_VALUE};
        for (int number : outside) {
            refused(exception, scene, m -> act.on(m, number));
        }
    }

    /** The call answers the same on a new object, whichever allowed number it has. */
    static void allowed(int least, int most, Object due, Scene scene, NumberAct act) {
        for (int number = least; number <= most; number++) {
            int asked = number;
            Checks.due(told + " - with " + asked, due, () -> act.on(scene.make(), asked));
        }
    }

    static EngineMonastery with(int... cylinders) {
        EngineMonastery m = new EngineMonastery();
        for (int number : cylinders) {
            m.addEngine(number);
        }
        return m;
    }

    /** Engine 0 with this firing order. */
    static EngineMonastery ordered(int... order) {
        EngineMonastery m = with(order.length);
        for (int place = 0; place < order.length; place++) {
            bring(m, order[place], place);
        }
        return m;
    }

    /** Brings a cylinder of engine 0 to a place, if it is not there. */
    private static void bring(EngineMonastery m, int cylinder, int place) {
        int from = 0;
        while (m.orderAt(0, from) != cylinder) {
            from++;
        }
        if (from != place) {
            m.exchange(0, place, from);
        }
    }

    /** Engine 0 with four dry cylinders, which have knocked in this order. */
    static EngineMonastery knocked(String cylinders) {
        EngineMonastery m = with(4);
        m.run(0, 20);
        for (int count = 0; count < cylinders.length(); count++) {
            bring(m, cylinders.charAt(count) - '0', count % 4);
            m.run(0, 1);
        }
        return m;
    }

    /** Three ways to get engine 1 anew with eight cylinders, after one that has run was restored or undone away. */
    static final Scene[] REUSED = {
        () -> {
            EngineMonastery m = with(3);
            m.save();
            executed(m, "engine 8;swap 1 07;rate 1=9;run 1*99;run 1*3");
            m.restore();
            m.addEngine(8);
            return m;
        },
        () -> {
            EngineMonastery m = with(3);
            executed(m, "engine 8;swap 1 07;rate 1=9;run 1*99;run 1*3");
            m.undo();
            m.addEngine(8);
            return m;
        },
        () -> {
            EngineMonastery m = with(3);
            executed(m, "engine 8;swap 1 07;rate 1=9;run 1*99;run 1*3;buy 0");
            executed(m, "engine 8");
            return m;
        },
    };

    /** One text for each monk with the vigils that the monk can keep. */
    static EngineMonastery able(String... vigils) {
        EngineMonastery m = new EngineMonastery();
        for (int monk = 0; monk < vigils.length; monk++) {
            m.addMonk();
            for (char vigil : vigils[monk].toCharArray()) {
                m.setAble(monk, vigil - '0', true);
            }
        }
        return m;
    }

    /** An engine, and repairs of it, each with its hours and its penance for an hour. */
    static EngineMonastery repairs(int... hoursAndPenances) {
        EngineMonastery m = with(3);
        for (int place = 0; place < hoursAndPenances.length; place += 2) {
            m.addRepair(0, hoursAndPenances[place], hoursAndPenances[place + 1]);
        }
        return m;
    }

    static void write(EngineMonastery m, String text) {
        for (char character : text.toCharArray()) {
            m.append(character);
        }
    }

    /** The answer of execute for this text, or its exception. */
    static Object executed(EngineMonastery m, String text) {
        write(m, text);
        return Checks.answerOf(m::execute);
    }

    static String lineOf(EngineMonastery m) {
        StringBuilder line = new StringBuilder();
        for (int index = 0; index < 30; index++) {
            int asked = index;
            Object character = Checks.answerOf(() -> m.lineAt(asked));
            if (!(character instanceof Character)) {
                break;
            }
            line.append(character);
        }
        return line.toString();
    }

    static String rotaOf(EngineMonastery m) {
        m.describeRota();
        return lineOf(m);
    }

    static String engineOf(EngineMonastery m, int engine) {
        m.describeEngine(engine);
        return lineOf(m);
    }
}
