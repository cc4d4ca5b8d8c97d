import java.util.NoSuchElementException;

/** Promises 54 to 56: the input, its execution and its syntax errors. */
final class CommandTests {
    private static final String TWENTY = "y1;".repeat(19) + "y1";

    private CommandTests() {
    }

    static void run() {
        appending();
        refusedCharacters();
        allOrNone();
        emptied();
        counting();
        syntaxErrors();
        otherFailures();
        rejections();
        offsets();
        noOffset();
    }

    private static void appending() {
        Expect.promise(54);
        Expect.sentence("Appends a character to the input.");
        Expect.answers(12, "iy i12 x", SockEmbassy::day);
        Expect.answers(2, "iy1;y1 x", SockEmbassy::day);
        Expect.sentence("- `character`: the character, with a code from 32 to 126");
        for (char code = 32; code <= 126; code++) {
            char some = code;
            Expect.answers(1, "", x -> x.appendInput(some));
        }
        Expect.sentence("Returns the length of the input after the call.");
        SockEmbassy office = new SockEmbassy();
        for (int length = 1; length <= 60; length++) {
            Expect.is(length, office.appendInput((char) (31 + length)));
        }
        Expect.answers(1, "iy1 x", x -> x.appendInput('n'));
        Expect.answers(1, "iy !x", x -> x.appendInput('n'));
        Expect.answers(3, "iy1", x -> x.appendInput(';'));
    }

    private static void refusedCharacters() {
        Expect.promise(54);
        String full = Make.STATES + Make.NOTES + " i" + "y1;".repeat(20);
        Expect.sentence("Throws `IllegalArgumentException` if the code is out of range");
        for (char character : "\0\t\n\37\177\200\u00a0\u00ff\u0141\u2028\uff41\uffff".toCharArray()) {
            Expect.fails(IllegalArgumentException.class, "", x -> x.appendInput(character));
            Expect.fails(IllegalArgumentException.class, Make.STATES, x -> x.appendInput(character));
            Expect.failsOnce(IllegalArgumentException.class, full, x -> x.appendInput(character));
        }
        Expect.sentence("Throws `IllegalStateException` if the input has 60 characters");
        for (char character : " n;~".toCharArray()) {
            Expect.answers(60, "i" + "z".repeat(59), x -> x.appendInput(character));
            Expect.failsOnce(IllegalStateException.class, "i" + "z".repeat(60), x -> x.appendInput(character));
            Expect.failsOnce(IllegalStateException.class, full, x -> x.appendInput(character));
            Expect.failsOnce(IllegalStateException.class, "i" + TWENTY + ".", x -> x.appendInput(character));
        }
        Expect.answers(1, "i" + "z".repeat(60) + " !x", x -> x.appendInput(' '));
    }

    private static void allOrNone() {
        Expect.promise(55);
        Expect.sentence("Executes the commands of the input, all of them or none.");
        executes("", "nr5;nr5;nw5;a0>1;a1>1;a2>1;d1;j0&1");
        executes(Make.STATES, "k3;l3;a3>0;d0;t03o;m3>3;r3+9;q3=1;b3r;u3g;e30;y20;p2;w2");
        executes("", TWENTY);
        // The last command fails, for each kind of failure.
        String changes = "y3;q0=1;b1g;t01s;a0>1;l5;k3;w2;";
        for (String last : new String[] {"p2", "e34", "y", "a0>5"}) {
            Expect.same(Make.STATES, () -> executed(Make.STATES, changes + last));
        }
    }

    /** One input does what the calls do one by one, as a single change. */
    private static void executes(String setup, String input) {
        SockEmbassy office = Make.office(setup + Make.NOTES);
        Expect.is(input.split(";").length, Make.execute(office, input));
        SockEmbassy twin = Make.office(setup + Make.NOTES + " " + input.replace(';', ' '));
        Expect.is(Picture.notes(twin), Picture.notes(office));
        Expect.is(Picture.data(twin), Picture.data(office));
        Expect.is(setup.isEmpty() ? 0 : 7, office.undo());
        Expect.is(Picture.data(Make.office(setup)), Picture.data(office));
    }

    /** An office after an input has been executed, whether that threw or not. */
    private static SockEmbassy executed(String setup, String input) {
        SockEmbassy office = Make.office(setup);
        Make.type(office, input);
        Expect.answer(office::execute);
        return office;
    }

    private static void emptied() {
        Expect.promise(55);
        Expect.sentence("The input is empty after the call, also if an exception is thrown.");
        String[] inputs = {"y1", "", "y", "y1;", "y0", "y1;e01", "w0", "y1;w0", "z".repeat(60), TWENTY};
        for (String input : inputs) {
            Expect.is(1, executed(Make.STATES, input).appendInput('y'));
            SockEmbassy office = executed(Make.STATES, input);
            int day = office.day();
            Expect.is(1, Make.execute(office, "y5"));
            Expect.is(day + 5, office.day());
        }
    }

    private static void counting() {
        Expect.promise(55);
        Expect.sentence("Returns the number of commands.");
        for (int commands = 1; commands <= 20; commands++) {
            Expect.answers(commands, "i" + TWENTY.substring(0, 3 * commands - 1), SockEmbassy::execute);
        }
        Expect.answers(1, "iy20", SockEmbassy::execute);
        Expect.answers(2, "inr1;nw9", SockEmbassy::execute);
    }

    private static void syntaxErrors() {
        Expect.promise(55);
        Expect.sentence("Throws `IllegalArgumentException` if the input has a syntax error; syntaxErrorOffset returns");
        for (String input : new String[] {"", "y", "y1;", ";", "y1 ", "y0;y", "w0;y", "y1;y1;y1;y1;d", TWENTY + ";"}) {
            for (String setup : new String[] {"", Make.STATES, Make.STATES + Make.NOTES}) {
                SockEmbassy office = Make.office(setup);
                Make.type(office, input);
                Expect.throwing(IllegalArgumentException.class, office, SockEmbassy::execute);
                Expect.is(input.equals(";") ? 0 : input.equals("y1 ") ? 2 : input.length(), office.syntaxErrorOffset());
                Expect.is(Expect.answer(Make.office(setup)::rejectionReason), Expect.answer(office::rejectionReason));
                Expect.same(setup, () -> executed(setup, input));
            }
        }
    }

    private static void otherFailures() {
        Expect.promise(55);
        Expect.sentence("Throws `IllegalStateException` if the first command that fails does so for another reason");
        String[] inputs = {"nr0", "a6>0", "a0>5", "a99>0", "w6", "p14", "d5", "d9", "r6+1", "r5+0", "r0+0", "l6",
            "m6>0", "m5>5", "j0&6", "j6&0", "j5&5", "k6", "q5=0", "b5r", "u9w", "t55o", "t05o", "t50o", "t11o",
            "e05", "e50", "e00", "e01", "y0", "y00", "y21", "y99", "nr5;a6>5", "y1;e01;w0", "nr0;w0"};
        for (String input : inputs) {
            failing(Make.STATES, input);
            failing(Make.STATES + Make.NOTES, input);
        }
        failing("", "a0>0");
        failing(Expect.FOURTEEN, "nr0");
        failing(Expect.FOURTEEN, "w14");
    }

    /** Execute fails and changes nothing but the input, not even the latest rejection and syntax error. */
    private static void failing(String setup, String input) {
        Expect.failsOnce(IllegalStateException.class, setup, x -> {
            Make.type(x, input);
            x.execute();
        });
    }

    private static void rejections() {
        Expect.promise(55);
        Expect.sentence("Throws `UnsupportedOperationException` if the call is rejected with the reason");
        String[] inputs = {"w0", "y1;w0", "y1;w0;e01", "w0;nr0", "y1;y1;y1;y1;y1;y1;y1;y1;y1;y1;y1;l0"};
        for (String input : inputs) {
            for (String setup : new String[] {Make.STATES, Make.STATES + Make.NOTES}) {
                SockEmbassy office = Make.office(setup);
                Make.type(office, input);
                Expect.throwing(UnsupportedOperationException.class, office, SockEmbassy::execute);
                Expect.is(SockEmbassy.COMMAND_REJECTED, office.rejectionReason());
                Expect.is(Picture.syntaxError(Make.office(setup)), Picture.syntaxError(office));
                Expect.same(setup, () -> executed(setup, input));
            }
        }
    }

    private static void offsets() {
        Expect.promise(56);
        Expect.sentence("Returns the offset of the latest syntax error.", "Returns the offset.");
        Expect.answers(0, "!x", SockEmbassy::syntaxErrorOffset);
        Expect.answers(3, "inr12 !x", SockEmbassy::syntaxErrorOffset);
        Expect.answers(60, "i" + TWENTY + "; !x", SockEmbassy::syntaxErrorOffset);
        Expect.answers(59, "i" + TWENTY + ". !x", SockEmbassy::syntaxErrorOffset);
        // The latest one counts; no input without an error ends it, nor undo, nor the snapshot.
        Expect.answers(0, "inr12 !x iz !x", SockEmbassy::syntaxErrorOffset);
        Expect.answers(3, "iz !x inr12 !x", SockEmbassy::syntaxErrorOffset);
        Expect.answers(3, "inr12 !x inr1 x iy0 !x iw0 !x", SockEmbassy::syntaxErrorOffset);
        Expect.answers(3, "nr1 S inr12 !x U R inr1", SockEmbassy::syntaxErrorOffset);
    }

    private static void noOffset() {
        Expect.promise(56);
        Expect.sentence("Throws `NoSuchElementException` if there was no syntax error");
        for (String setup : new String[] {"", "iy1 x", "nr1 iw0 !x", "iy0 !x", "iz"}) {
            Expect.failsOnce(NoSuchElementException.class, setup, SockEmbassy::syntaxErrorOffset);
        }
    }
}
