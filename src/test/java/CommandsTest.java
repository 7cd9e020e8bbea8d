/** Promises 46 to 49: the command text, its error positions, and its commands. */
public final class CommandsTest {
    public static void main(String[] args) {
        append();
        errorPositions();
        everyCommand();
        manyCommands();
        failedCommands();
        whatIsKept();
        Checks.end();
    }

    private static void write(EngineMonastery m, String text) {
        for (char character : text.toCharArray()) {
            m.append(character);
        }
    }

    private static void append() {
        EngineMonastery m = new EngineMonastery();
        for (int wrong : new int[] {31, 127, 0, 10, 200, 65535}) {
            Checks.argument("46: code " + wrong, () -> m.append((char) wrong));
        }
        Checks.due("46: code 32", 1, () -> m.append(' '));
        Checks.due("46: code 126", 2, () -> m.append('~'));
        for (int length = 3; length <= 60; length++) {
            Checks.due("46: length", length, () -> m.append('x'));
        }
        Checks.state("46: 60 characters", () -> m.append('x'));
        Checks.argument("46: the argument first", () -> m.append('\n'));
        Checks.argument("47: no command text", m::execute);
        Checks.due("48: the blank", 0, m::errorPosition);
        Checks.due("47: the text is empty again", 1, () -> m.append('m'));
    }

    private static void error(int due, String text) {
        EngineMonastery m = new EngineMonastery();
        m.addEngine(3);
        write(m, text);
        Checks.element("48: none before", m::errorPosition);
        Checks.argument("47: '" + text + "'", m::execute);
        Checks.due("48: '" + text + "'", due, m::errorPosition);
        Checks.element("49: no command has failed", m::failedCommand);
        Checks.due("47: the text is empty", 1, () -> m.append('x'));
        Checks.due("47: nothing was carried out", 35, m::allOil);
        Checks.due("47: no change", 0, m::undo);
    }

    private static void errorPositions() {
        error(0, "");
        error(0, "x");
        error(0, " monk");
        error(0, ";");
        error(0, "Monk");
        error(2, "mo");
        error(1, "mxnk");
        error(1, "m");
        error(3, "meno");
        error(3, "mon");
        error(4, "monk ");
        error(4, "monks");
        error(5, "monk;");
        error(5, "monk;;monk");
        error(5, "monk; monk");
        error(6, "repair1");
        error(2, "re");
        error(2, "rex");
        error(2, "rax");
        error(2, "rux");
        error(1, "rx");
        error(3, "rat");
        error(7, "engine ");
        error(7, "engine x");
        error(6, "engine3");
        error(8, "engine 33");
        error(7, "engine  3");
        error(7, "swap 0 ");
        error(8, "swap 0 1");
        error(8, "swap 0 1 2");
        error(9, "swap 0 123");
        error(6, "swap 012");
        error(6, "rate 0-1");
        error(7, "rate 0=");
        error(8, "rate 0=12");
        error(6, "rate 00=1");
        error(6, "run 0*");
        error(8, "run 0*123");
        error(5, "run 0+1");
        error(6, "run 0*x");
        error(5, "oil 0,0+1");
        error(7, "oil 0.0*1");
        error(8, "oil 0.0+");
        error(10, "oil 0.0+123");
        error(5, "fill x");
        error(7, "fill 123");
        error(5, "buy 1 ");
        error(6, "buy 123");
        error(4, "buy -1");
        error(6, "able 0 0");
        error(6, "able 0");
        error(7, "able 000");
        error(9, "mend 0 123");
        error(8, "mend 0 1");
        error(7, "pass 10 ");
        error(7, "pass 123");
        error(5, "pass ");
        error(15, "buy 1;buy 2;buyx");
        error(60, "monk;monk;monk;monk;monk;monk;monk;monk;monk;monk;monk;monk;");
        error(9, "buy 1;monx");
    }

    private static void everyCommand() {
        EngineMonastery m = new EngineMonastery();
        commands(m, 1, "engine 4");
        Checks.due("47: engine", 4, () -> m.cylinderCount(0));
        commands(m, 1, "swap 0 13");
        Checks.due("47: swap", 3, () -> m.orderAt(0, 1));
        commands(m, 1, "rate 0=7");
        Checks.due("47: rate", 7, () -> m.setRate(0, 0));
        commands(m, 1, "run 0*6");
        Checks.due("47: run", 3, () -> m.oilOf(0, 3));
        commands(m, 1, "run 0*10");
        Checks.due("47: run with two digits", 1, () -> m.oilOf(0, 3));
        commands(m, 1, "run 0*08");
        Checks.due("47: run with a leading zero", 4, () -> m.knockCount(0));
        commands(m, 1, "oil 0.2+5");
        Checks.due("47: oil", 5, () -> m.oilOf(0, 2));
        commands(m, 1, "oil 0.2+10");
        Checks.due("47: oil with two digits", 15, () -> m.oilOf(0, 2));
        commands(m, 1, "fill 3");
        Checks.due("47: fill", 1, () -> m.oilOf(0, 3));
        commands(m, 1, "buy 40");
        Checks.due("47: buy", 60, m::allOil);
        commands(m, 1, "monk");
        Checks.due("47: monk", false, () -> m.setAble(0, 7, false));
        commands(m, 1, "able 07");
        Checks.due("47: able", 0, () -> m.keeperOf(7));
        commands(m, 1, "mend 0 23");
        Checks.due("47: mend", 6, m::leastPenance);
        commands(m, 1, "repair");
        Checks.due("47: repair", 6, m::penanceDone);
        commands(m, 1, "pass 48");
        Checks.due("47: pass", 50, m::hour);
    }

    private static void commands(EngineMonastery m, int due, String text) {
        write(m, text);
        Checks.due("47: '" + text + "'", due, m::execute);
    }

    private static void manyCommands() {
        EngineMonastery m = new EngineMonastery();
        m.buyOil(1);
        commands(m, 5, "engine 3;run 0*17;fill 9;rate 0=1;pass 2");
        Checks.due("47: all in their order", 2, () -> m.oilOf(0, 2));
        Checks.due("47: the knocks of hour 0", 2, () -> m.knocksIn(0));
        Checks.due("47: one change", 1, m::undo);
        Checks.due("47: undone as one", 0, m::engineCount);
        commands(m, 10, "buy 1;buy 1;buy 1;buy 1;buy 1;buy 1;buy 1;buy 1;buy 1;buy 12");
        Checks.due("47: 60 characters", 42, m::allOil);
        Checks.due("47: one change again", 1, m::undo);
        Checks.due("47: undone", 21, m::allOil);
        commands(m, 6, "monk;monk;monk;monk;monk;monk");
        Checks.state("47: six monks", m::addMonk);
    }

    private static void failed(int due, String text) {
        EngineMonastery m = new EngineMonastery();
        m.addEngine(3);
        m.addMonk();
        write(m, text);
        Checks.element("49: none before", m::failedCommand);
        Checks.state("47: '" + text + "'", m::execute);
        Checks.due("49: '" + text + "'", due, m::failedCommand);
        Checks.element("48: no error position", m::errorPosition);
        Checks.due("47: no command is carried out", 35, m::allOil);
        Checks.due("47: no engine is added", 1, m::engineCount);
        Checks.due("47: no hour has passed", 0, m::hour);
        Checks.due("47: no repair is asked for", 0, m::repairCount);
        Checks.due("47: the text is empty", 1, () -> m.append('x'));
        Checks.due("47: no change", 1, m::undo);
    }

    private static void failedCommands() {
        failed(0, "engine 2");
        failed(0, "engine 9");
        failed(0, "swap 1 00");
        failed(0, "swap 0 30");
        failed(0, "swap 0 03");
        failed(0, "rate 1=0");
        failed(0, "run 0*0");
        failed(0, "run 0*00");
        failed(0, "run 1*1");
        failed(0, "oil 0.3+1");
        failed(0, "oil 1.0+1");
        failed(0, "oil 0.0+0");
        failed(0, "oil 0.0+21");
        failed(0, "fill 0");
        failed(0, "fill 21");
        failed(0, "buy 0");
        failed(0, "able 10");
        failed(0, "able 08");
        failed(0, "mend 1 11");
        failed(0, "mend 0 01");
        failed(0, "mend 0 10");
        failed(0, "repair");
        failed(0, "pass 0");
        failed(0, "pass 49");
        failed(3, "engine 3;engine 4;engine 5;engine 6");
        failed(5, "monk;monk;monk;monk;monk;monk;monk");
        failed(6, "buy 99;buy 99;buy 99;buy 99;buy 84;pass 1;buy 1");
        failed(2, "mend 0 11;repair;repair;repair");
        failed(1, "pass 1;run 1*9;engine 9");
    }

    private static void whatIsKept() {
        EngineMonastery m = new EngineMonastery();
        write(m, "repair");
        Checks.state("47: fails", m::execute);
        write(m, "fi");
        Checks.argument("47: an error", m::execute);
        Checks.due("48: set", 2, m::errorPosition);
        Checks.due("49: left as it is", 0, m::failedCommand);
        write(m, "monk;repair");
        Checks.state("47: fails again", m::execute);
        Checks.due("48: left as it is", 2, m::errorPosition);
        Checks.due("49: set", 1, m::failedCommand);
        write(m, "monk");
        Checks.due("47: succeeds", 1, m::execute);
        Checks.due("48: still there", 2, m::errorPosition);
        Checks.due("49: still there", 1, m::failedCommand);
        m.save();
        write(m, "buy ");
        Checks.due("56: undone", 0, m::undo);
        m.restore();
        m.append('7');
        Checks.due("46: the text is neither undone nor saved", 1, m::execute);
        Checks.due("47: 7 units", 27, m::allOil);
        Checks.due("48: neither undone nor saved", 2, m::errorPosition);
        Checks.due("49: neither undone nor saved", 1, m::failedCommand);
    }
}
