import java.util.ArrayList;
import java.util.List;

/** The boundary cases that 'Terms' names for the commands, and those of promises 46 to 49. */
final class BoundariesOfCommands extends Boundaries {
    /** The forms of a command: '#' is a digit. */
    private static final String[] FORMS = {"engine #", "swap # ##", "rate #=#", "run #*#", "run #*##", "oil #.#+#",
        "oil #.#+##", "fill #", "fill ##", "buy #", "buy ##", "monk", "able ##", "mend # ##", "repair", "pass #",
        "pass ##"};

    private BoundariesOfCommands() {
    }

    static void run() {
        under("Terms");
        buffer();
        form();
        calls();
        errorPositions();
        keywords();
        append();
        execute();
        errorPosition();
        failedCommand();
    }

    private static void buffer() {
        says("The command text is a buffer of at most 60 characters.");
        EngineMonastery m = new EngineMonastery();
        for (int length = 1; length <= 60; length++) {
            due(length, () -> m.append(' '));
        }
        due(STATE, () -> m.append(' '));
        due(STATE, () -> m.append(' '));
        due(10, () -> executed(new EngineMonastery(), "buy 10;" + "buy 1;".repeat(8) + "buy 1"));
        due(ARGUMENT, m::execute);
        due(1, () -> m.append(' '));
    }

    private static void form() {
        says("A command text has the following form, where braces mean zero or more repetitions and brackets optional "
                + "parts:");
        for (String form : FORMS) {
            isCommands(form.replace('#', '1'));
            isCommands(form.replace('#', '1') + ";monk");
            isCommands("monk;" + form.replace('#', '1'));
            for (int place = 0; place < form.length(); place++) {
                if (form.charAt(place) == '#') {
                    digits(form, place);
                }
            }
        }
        // No repetition, and as many as 60 characters hold; no empty command between, before or behind.
        isCommands("monk");
        isCommands("monk" + ";monk".repeat(11));
        isNone(0, "");
        isNone(0, ";monk");
        isNone(5, "monk;");
        isNone(5, "monk;;monk");
        // The optional digit: none, one, but not two.
        isNone(5, "pass ");
        isCommands("pass 4");
        isCommands("pass 48");
        isNone(7, "pass 480");
        isCommands("buy 00");
    }

    /** All digits from 0 to 9 fit, and the characters just before 0 and just behind 9 don't. */
    private static void digits(String form, int place) {
        String before = form.substring(0, place).replace('#', '1');
        String behind = form.substring(place + 1).replace('#', '1');
        for (char digit = '0'; digit <= '9'; digit++) {
            isCommands(before + digit + behind);
        }
        isNone(place, before + '/' + behind);
        isNone(place, before + ':' + behind);
        isNone(place, before + ' ' + behind);
    }

    /** The text has the form, whether its commands succeed or fail. */
    private static void isCommands(String text) {
        due("'" + text + "' are commands", () -> {
            EngineMonastery m = new EngineMonastery();
            Object answer = executed(m, text);
            return "'" + text + "' " + (answer.equals(ARGUMENT) ? "fails at " + m.errorPosition() : "are commands");
        });
    }

    private static void isNone(int position, String text) {
        due("'" + text + "' fails at " + position, () -> {
            EngineMonastery m = new EngineMonastery();
            Object answer = executed(m, text);
            return "'" + text + "' " + (answer.equals(ARGUMENT) ? "fails at " + m.errorPosition() : "are commands");
        });
    }

    private static void calls() {
        says("The commands call addEngine(), exchange(), setRate(), run(), oil(), oilDriest(), buyOil(), addMonk(), "
                + "setAble(), addRepair(), repair() and pass(), with the numbers of the command as parameters in their "
                + "order; setAble() is called with true.");
        alike("engine 8", m -> m.addEngine(8));
        alike("engine 3", m -> m.addEngine(3));
        alike("swap 0 13", m -> m.exchange(0, 1, 3));
        alike("swap 1 02", m -> m.exchange(1, 0, 2));
        alike("swap 1 20", m -> m.exchange(1, 2, 0));
        alike("rate 1=9", m -> m.setRate(1, 9));
        alike("rate 0=0", m -> m.setRate(0, 0));
        alike("run 0*1", m -> m.run(0, 1));
        alike("run 1*99", m -> m.run(1, 99));
        alike("run 1*07", m -> m.run(1, 7));
        alike("oil 0.3+1", m -> m.oil(0, 3, 1));
        alike("oil 1.2+43", m -> m.oil(1, 2, 43));
        alike("oil 1.0+08", m -> m.oil(1, 0, 8));
        alike("fill 1", m -> m.oilDriest(1));
        alike("fill 43", m -> m.oilDriest(43));
        alike("buy 1", m -> m.buyOil(1));
        alike("buy 99", m -> m.buyOil(99));
        alike("monk", EngineMonastery::addMonk);
        alike("able 17", m -> m.setAble(1, 7, true));
        alike("able 00", m -> m.setAble(0, 0, true));
        alike("able 03", m -> m.setAble(0, 3, true));
        alike("mend 1 92", m -> m.addRepair(1, 9, 2));
        alike("mend 0 19", m -> m.addRepair(0, 1, 9));
        alike("repair", EngineMonastery::repair);
        alike("pass 1", m -> m.pass(1));
        alike("pass 48", m -> m.pass(48));
        // The numbers just outside, in their order.
        fails("engine 2");
        fails("engine 9");
        fails("swap 2 00");
        fails("swap 0 40");
        fails("swap 0 04");
        fails("rate 2=0");
        fails("run 2*1");
        fails("run 0*0");
        fails("oil 2.0+1");
        fails("oil 1.3+1");
        fails("oil 0.0+0");
        fails("oil 0.0+44");
        fails("fill 0");
        fails("fill 44");
        fails("buy 0");
        fails("able 20");
        fails("able 08");
        fails("mend 2 11");
        fails("mend 0 01");
        fails("mend 0 10");
        fails("pass 0");
        fails("pass 49");
    }

    /** The command does what the call does, and is undone as it is. */
    private static void alike(String command, Act call) {
        Scene scene = () -> quiet("mo", "buy 1;repair");
        due(1, () -> executed(scene.make(), command));
        due(true, () -> Watch.whole(scene, m -> executed(m, command)).equals(Watch.whole(scene, call)));
    }

    private static void fails(String command) {
        refused(STATE, () -> quiet("mo", "repair"), m -> executes(m, command));
    }

    /** As executed, but the exception goes on. */
    private static Object executes(EngineMonastery m, String text) {
        write(m, text);
        return m.execute();
    }

    private static void errorPositions() {
        says("The error position of a text is the index of the first character that cannot continue any command text.");
        isNone(0, "x");
        isNone(0, " monk");
        isNone(2, "moxk");
        isNone(4, "monk ");
        isNone(4, "monks");
        isNone(7, "engine x");
        isNone(8, "engine 33");
        isNone(6, "repair1");
        isNone(0, "~x");
        isNone(58, "buy 10;" + "buy 1;".repeat(8) + "buyx");
        isNone(59, "buy 10;" + "buy 1;".repeat(8) + "buy x");
        for (String text : texts()) {
            for (int place = 0; place < text.length(); place++) {
                for (char other = 32; other <= 126; other++) {
                    asListed(text.substring(0, place) + other + text.substring(place + 1));
                }
            }
        }

        says("If every character can, the error position is the length of the text.");
        isNone(0, "");
        isNone(1, "m");
        isNone(60, "monk;".repeat(12));
        isNone(59, "monk;".repeat(11) + "able");
        isNone(60, "monk;".repeat(11) + "able ");
        for (String text : texts()) {
            for (int length = 0; length < text.length(); length++) {
                asListed(text.substring(0, length));
                asListed("repair;" + text.substring(0, length));
            }
        }
    }

    /** A text of each form, and some of several commands. */
    private static List<String> texts() {
        List<String> texts = new ArrayList<>();
        for (String form : FORMS) {
            texts.add(form.replace('#', '3'));
        }
        texts.add("monk;buy 7;pass 10");
        texts.add("run 0*1;run 0*12;repair;rate 0=0");
        return texts;
    }

    private static void asListed(String text) {
        int position = errorPositionOf(text);
        if (position < 0) {
            isCommands(text);
        } else {
            isNone(position, text);
        }
    }

    /** As the document tells it, by the forms alone: the first character that fits no form, or -1 for commands. */
    private static int errorPositionOf(String text) {
        for (int length = 1; length <= text.length(); length++) {
            if (!fits(text.substring(0, length), false)) {
                return length - 1;
            }
        }
        return fits(text, true) ? -1 : text.length();
    }

    private static boolean fits(String text, boolean isWhole) {
        String[] parts = text.split(";", -1);
        for (int part = 0; part < parts.length; part++) {
            boolean isOpen = !isWhole && part == parts.length - 1;
            boolean fitsOne = false;
            for (String form : FORMS) {
                fitsOne |= fits(parts[part], form, isOpen);
            }
            if (!fitsOne) {
                return false;
            }
        }
        return true;
    }

    private static boolean fits(String part, String form, boolean isOpen) {
        if (part.length() > form.length() || part.length() < form.length() && !isOpen) {
            return false;
        }
        for (int place = 0; place < part.length(); place++) {
            boolean isDigit = part.charAt(place) >= '0' && part.charAt(place) <= '9';
            if (form.charAt(place) == '#' ? !isDigit : form.charAt(place) != part.charAt(place)) {
                return false;
            }
        }
        return true;
    }

    private static void keywords() {
        says("Keywords are matched character by character.");
        // What several keywords begin with goes on to each of them.
        isNone(1, "m");
        isNone(2, "me");
        isNone(2, "mo");
        isNone(1, "ma");
        isNone(1, "r");
        isNone(2, "ra");
        isNone(2, "re");
        isNone(2, "ru");
        isNone(1, "ro");
        isNone(3, "rep");
        isNone(2, "rea");
        isNone(3, "repe");
        isNone(1, "am");
        isNone(1, "e0");
        isNone(0, "Monk");
        isNone(3, "monK");
        isNone(4, "monkmonk");
        isNone(6, "repair ");
        isNone(3, "run");
        isNone(4, "run ");
    }

    private static void append() {
        under("Promise 46");
        says("Appends a character to the command text.");
        EngineMonastery m = new EngineMonastery();
        for (char character : "buy 7".toCharArray()) {
            m.append(character);
        }
        due(1, m::execute);
        due(27, m::allOil);

        says("Returns the length of the command text after the call.");
        EngineMonastery lengths = new EngineMonastery();
        for (int length = 1; length <= 60; length++) {
            due(length, () -> lengths.append('~'));
        }
        due(ARGUMENT, lengths::execute);
        due(1, () -> lengths.append('m'));
        due(3, () -> BUSY.make().append('n'));

        says("Throws `IllegalArgumentException` if the code of the character is not from 32 to 126");
        for (int code = 32; code <= 126; code++) {
            int asked = code;
            due(1, () -> new EngineMonastery().append((char) asked));
        }
        int[] outside = {0, 1, 9, 10, 13, 31, 127, 128, 159, 160, 255, 256 + 32, 256 + 126, 32767, 32768, 65535};
        for (int code : outside) {
            refused(ARGUMENT, EMPTY, x -> x.append((char) code));
            refused(ARGUMENT, BUSY, x -> x.append((char) code));
            refused(ARGUMENT, FULL, x -> x.append((char) code));
        }

        says("Throws `IllegalStateException` if the command text has 60 characters");
        for (int code = 32; code <= 126; code++) {
            int asked = code;
            due(STATE, () -> FULL.make().append((char) asked));
        }
        refused(STATE, FULL, x -> x.append(' '));
        refused(STATE, FULL, x -> x.append('~'));
        EngineMonastery nearly = new EngineMonastery();
        write(nearly, "x".repeat(59));
        due(60, () -> nearly.append(';'));
        due(STATE, () -> nearly.append(';'));
    }

    private static void execute() {
        under("Promise 47");
        says("Parses the command text and carries out its commands in order.");
        EngineMonastery m = new EngineMonastery();
        due(4, () -> executed(m, "engine 3;run 0*16;fill 1;run 0*1"));
        // The second run begins at place 1: the unit of cylinder 0 is still there.
        due("0:01!*2!", () -> engineOf(m, 0));
        due(2, () -> m.knockCount(0));
        EngineMonastery other = new EngineMonastery();
        due(4, () -> executed(other, "engine 3;fill 1;run 0*16;run 0*1"));
        due("0:0!1!*2!", () -> engineOf(other, 0));
        due(1, () -> other.knockCount(0));

        says("Either all commands are carried out, or none.");
        EngineMonastery all = new EngineMonastery();
        due(5, () -> executed(all, "engine 3;monk;able 07;mend 0 11;buy 5"));
        due(1, all::engineCount);
        due(0, () -> all.keeperOf(7));
        due(1, all::repairCount);
        due(40, all::allOil);
        noneOf(0, "engine 9;monk;buy 1;pass 1");
        noneOf(1, "run 0*9;engine 2;repair;repair");
        noneOf(3, "repair;repair;repair;repair");
        noneOf(7, "monk;able 27;swap 0 01;rate 0=9;run 0*9;buy 9;repair;buy 0");
        noneOf(5, "oil 0.0+9;fill 9;mend 0 11;engine 3;pass 9;buy 0");
        noneOf(9, "buy 1;".repeat(9) + "buy 0");

        says("The command text is empty after the call, also if an exception is thrown.");
        for (String text : new String[] {"buy 1", "", "buy", "repair", "x".repeat(60), "buy 1;repair", "buy 1;"}) {
            EngineMonastery empty = new EngineMonastery();
            executed(empty, text);
            due(1, () -> empty.append('b'));
            write(empty, "uy 1");
            due(1, empty::execute);
            due(ARGUMENT, empty::execute);
            due(0, empty::errorPosition);
        }

        says("The first command whose method would throw an exception is the failed command.");
        failed(0, "repair");
        failed(0, "repair;engine 9;pass 0");
        failed(1, "buy 1;repair;engine 9");
        failed(2, "buy 1;buy 2;pass 0");
        // A command finds what those before it have left.
        failed(4, "engine 3;engine 3;engine 3;engine 3;engine 3");
        failed(6, "monk" + ";monk".repeat(11));
        failed(2, "engine 3;oil 0.0+20;oil 0.0+1");
        failed(3, "engine 3;mend 0 11;repair;repair");
        failed(1, "monk;able 10");
        failed(5, "buy 99;buy 99;buy 99;buy 99;buy 84;buy 1");
        due(6, () -> executed(new EngineMonastery(), "buy 99;buy 99;buy 99;buy 99;buy 83;buy 1"));
        failed(1, "pass 48;pass 49");
        failed(10, "monk;monk;monk;monk;monk;monk;buy 1;buy 1;buy 1;buy 1;buy 0");

        says("Returns the number of commands.");
        due(1, () -> executed(new EngineMonastery(), "monk"));
        due(2, () -> executed(new EngineMonastery(), "monk;monk"));
        due(10, () -> executed(new EngineMonastery(), "buy 1" + ";buy 1".repeat(9)));
        // No text of 60 characters has more that succeed.
        due(11, () -> executed(new EngineMonastery(), "monk;".repeat(6) + "buy 1" + ";buy 1".repeat(4)));

        says("Throws `IllegalArgumentException` if the text is not a command text; the error position is set and the "
                + "failed command is left as it is");
        String[] noCommands = {"", "x", "monk;", "buy 1;buy 123", "repair;x", "monk;".repeat(12), "engine :"};
        for (String text : noCommands) {
            // The scene has the error position of this text already, so that nothing at all may differ.
            refused(ARGUMENT, () -> quiet(text, "buy 1;repair"), x -> executes(x, text));
            refused(ARGUMENT, () -> quiet(text, "monk"), x -> executes(x, text));
            EngineMonastery set = quiet("mo", "buy 1;repair");
            executed(set, text);
            due(errorPositionOf(text), set::errorPosition);
            due(1, set::failedCommand);
        }

        says("Throws `IllegalStateException` if a command fails; the failed command is set and the error position is "
                + "left as it is");
        String[] failing = {"engine 2", "buy 1;engine 2", "buy 1;buy 1;engine 2", "buy 1;buy 1;buy 1;buy 0;buy 0"};
        for (int command = 0; command < failing.length; command++) {
            String text = failing[command];
            String failsAlike = "buy 1;".repeat(command) + "repair";
            refused(STATE, () -> quiet("mo", failsAlike), x -> executes(x, text));
            refused(STATE, () -> quiet("monk", failsAlike), x -> executes(x, text));
            EngineMonastery set = quiet("mo", "buy 1;".repeat(7) + "repair");
            executed(set, text);
            due(command, set::failedCommand);
            due(2, set::errorPosition);
        }
    }

    /** The command fails on BUSY, and afterwards nothing is there of those before it. */
    private static void noneOf(int command, String text) {
        String failsAlike = "buy 1;".repeat(command) + "repair";
        refused(STATE, () -> quiet("mo", failsAlike), x -> executes(x, text));
    }

    private static void failed(int due, String text) {
        EngineMonastery m = new EngineMonastery();
        due(STATE, () -> executed(m, text));
        due(due, m::failedCommand);
    }

    private static void errorPosition() {
        under("Promise 48");
        says("Returns the error position that was set last.");
        EngineMonastery m = new EngineMonastery();
        executed(m, "mo");
        due(2, m::errorPosition);
        executed(m, "buy 1;x");
        due(6, m::errorPosition);
        executed(m, "");
        due(0, m::errorPosition);
        executed(m, "monk;".repeat(12));
        due(60, m::errorPosition);
        executed(m, "monk");
        executed(m, "repair");
        due(60, m::errorPosition);
        m.undo();
        m.save();
        m.restore();
        due(60, m::errorPosition);

        says("Throws `NoSuchElementException` if no error position was set");
        refused(ELEMENT, EMPTY, EngineMonastery::errorPosition);
        refused(ELEMENT, FULL, EngineMonastery::errorPosition);
        Scene others = () -> quiet("monk", "repair");
        refused(ELEMENT, others, EngineMonastery::errorPosition);
        EngineMonastery first = others.make();
        executed(first, "");
        due(0, first::errorPosition);
    }

    private static void failedCommand() {
        under("Promise 49");
        says("Returns the index of the failed command of the latest call of execute in which a command failed.");
        EngineMonastery m = new EngineMonastery();
        executed(m, "buy 1;repair");
        due(1, m::failedCommand);
        executed(m, "repair");
        due(0, m::failedCommand);
        executed(m, "monk" + ";monk".repeat(11));
        due(6, m::failedCommand);
        executed(m, "monk");
        executed(m, "repair;");
        due(6, m::failedCommand);
        m.undo();
        m.save();
        m.restore();
        due(6, m::failedCommand);

        says("Returns the index, from 0.");
        failed(0, "pass 0");
        failed(9, "buy 1;".repeat(9) + "buy 0");

        says("Throws `NoSuchElementException` if no command has failed");
        refused(ELEMENT, EMPTY, EngineMonastery::failedCommand);
        refused(ELEMENT, FULL, EngineMonastery::failedCommand);
        Scene others = () -> quiet("mo", "monk");
        refused(ELEMENT, others, EngineMonastery::failedCommand);
        EngineMonastery first = others.make();
        executed(first, "buy 0");
        due(0, first::failedCommand);
    }
}
