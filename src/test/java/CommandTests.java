import java.util.NoSuchElementException;

/** Promises 54 to 56: the input, its commands and its syntax errors. */
final class CommandTests {
    private static final String FULL = "y1;".repeat(20);

    private CommandTests() {
    }

    static void run() {
        appending();
        everyCommand();
        numbers();
        allOrNone();
        otherFailures();
        rejections();
        firstFailures();
        syntaxErrors();
        everyCharacter();
        latestError();
    }

    private static void appending() {
        Expect.promise(54);
        SockEmbassy office = new SockEmbassy();
        for (int length = 1; length <= 60; length++) {
            Expect.is(length, office.appendInput((char) (31 + length)));
        }
        for (char character : " n~".toCharArray()) {
            Expect.throwing(IllegalStateException.class, office, x -> x.appendInput(character));
        }
        for (char character : "\0\t\n\37\177\200\u00ff\u016e\uffff".toCharArray()) {
            Expect.throwing(IllegalArgumentException.class, office, x -> x.appendInput(character));
            Expect.fails(IllegalArgumentException.class, Make.STATES, x -> x.appendInput(character));
        }
        SockEmbassy edges = new SockEmbassy();
        Expect.is(1, edges.appendInput((char) 32));
        Expect.is(2, edges.appendInput((char) 126));
        Expect.throwing(IllegalArgumentException.class, edges, SockEmbassy::execute);
        Expect.is(1, edges.appendInput('n'));
    }

    /** A command does what the call of its own does. */
    private static void everyCommand() {
        Expect.promise(55);
        String[] commands = {"nr1", "nw9", "a0>4", "w1", "w2", "p2", "d2", "d0", "r5+9", "r3+1", "l5", "m5>0",
            "j5&6", "k3", "k4", "q4=0", "q0=9", "b4r", "b0w", "u4g", "u4b", "t01o", "t42s", "t13x", "e30", "y1", "y20"};
        String setup = Make.STATES + " nw9 a6>3 q3=4 d3 t30s b4g";
        for (String command : commands) {
            SockEmbassy office = Make.office(setup);
            Expect.is(1, Make.execute(office, command));
            Expect.is(Picture.all(Make.office(setup + " " + command)), Picture.all(office));
        }
        SockEmbassy several = new SockEmbassy();
        Expect.is(8, Make.execute(several, "nr5;nr5;nw5;a0>1;a1>1;a2>1;d1;j0&1"));
        Expect.is(1, several.pairCount(1));
        // One change, however many commands.
        Expect.is(0, several.undo());
        Expect.is(0, several.sockCount());
        Expect.is(20, Make.execute(several, FULL.substring(0, 59)));
        Expect.is(20, several.day());
    }

    private static void numbers() {
        String many = "nr1 ".repeat(14);
        SockEmbassy office = Make.office(many);
        Expect.is(4, Make.execute(office, "a0>1;a01>1;a10>2;a13>2"));
        Expect.is(true, office.isPending(0));
        Expect.is(true, office.isPending(1));
        Expect.is(true, office.isPending(10));
        Expect.is(true, office.isPending(13));
        Expect.is(4, Make.execute(office, "d1;d2;j00&1;j13&10"));
        Expect.is(10, office.partnerOf(13));
        Expect.is(2, Make.execute(office, "y09;y20"));
        Expect.is(29, office.day());
    }

    private static void allOrNone() {
        failing(IllegalStateException.class, "", "nr5;a0>5");
        failing(IllegalStateException.class, Make.STATES, "y3;q0=1;b1g;t01s;a0>1;r5+0");
        SockEmbassy office = Make.office(Make.STATES);
        Make.type(office, "y3;q0=1;b1g;t01s;a0>1;l5;k3;w2;p2");
        Expect.throwing(UnsupportedOperationException.class, office, SockEmbassy::execute);
        Expect.is(Picture.all(Make.office(Make.STATES)), Picture.all(office));
        // Later commands see what earlier ones did.
        Expect.is(3, Make.execute(Make.office(Make.STATES), "k3;l3;a3>0"));
    }

    private static void otherFailures() {
        String[] inputs = {"nr0", "a6>0", "a0>5", "a99>0", "w6", "p14", "d5", "d9", "r6+1", "r5+0", "r0+0", "l6",
            "m6>0", "m5>5", "j0&6", "j6&0", "j5&5", "k6", "q5=0", "b5r", "u9w", "t55o", "t05o", "t50o", "t11o",
            "e05", "e50", "e00", "e01", "y0", "y00", "y21", "y99"};
        for (String input : inputs) {
            failing(IllegalStateException.class, Make.STATES, input);
        }
    }

    /** Execute fails and changes nothing, not even the latest rejection and syntax error. */
    private static void failing(Class<?> type, String setup, String input) {
        Expect.fails(type, setup, x -> {
            Make.type(x, input);
            x.execute();
        });
    }

    private static void rejections() {
        String setup = Make.STATES + " t30o nr9 a6>3 q3=4 d3 q3=3";
        rejected(setup, "a1>0", 0, SockEmbassy.NOT_AWAY);
        rejected(setup, "y1;w0", 1, SockEmbassy.NO_APPLICATION);
        rejected(setup, "y1;y1;p0", 2, SockEmbassy.NOT_REFUSED);
        rejected(setup, "p2;d1;p2;d1;p2", 4, SockEmbassy.FINAL_LEVEL);
        rejected(setup, "r1+1", 0, SockEmbassy.NOT_RESIDENT);
        rejected(setup, "r5+9;r5+2", 1, SockEmbassy.VISA_LIMIT);
        rejected(setup, "l3", 0, SockEmbassy.PAIRED);
        rejected(setup, "k3;k4", 1, SockEmbassy.NOT_PAIRED);
        rejected(setup, "m5>0;j5&6", 1, SockEmbassy.OTHER_DRAWER);
        rejected(setup, "k4;j4&5", 1, SockEmbassy.NO_MATCH);
        rejected(setup, "m5>1", 0, SockEmbassy.NO_TREATY);
        rejected(setup, "e30;t03x;m5>0;m5>3", 3, SockEmbassy.CLAUSE);
        rejected(setup, "m5>0;m5>3", 1, SockEmbassy.QUOTA);
        rejected(setup, "b0r;m5>0", 1, SockEmbassy.BANNED);
        rejected(setup, "t12x;t21x", 1, SockEmbassy.TREATY_EXISTS);
        rejected("nr1 ".repeat(13), "nr1;nr1;nr0", 1, SockEmbassy.SOCK_LIMIT);
        rejected("", "y1;".repeat(15) + "nr1;a0>0;a0>0", 17, SockEmbassy.NOT_AWAY);
    }

    private static void rejected(String setup, String input, int detail, int cause) {
        SockEmbassy office = Make.office(setup);
        Make.type(office, input);
        Expect.promise(55);
        Expect.throwing(UnsupportedOperationException.class, office, SockEmbassy::execute);
        Expect.promise(57);
        Expect.is(SockEmbassy.COMMAND_REJECTED, office.rejectionReason());
        Expect.promise(58);
        Expect.is(detail, office.rejectionDetail());
        Expect.promise(59);
        Expect.is(cause, office.causeReason());
        Expect.promise(55);
        Expect.is(Picture.all(Make.office(setup)), Picture.all(office));
    }

    private static void firstFailures() {
        failing(IllegalStateException.class, Make.STATES, "y1;e01;w0");
        rejected(Make.STATES, "y1;w0;e01", 1, SockEmbassy.NO_APPLICATION);
        // A syntax error behind a command that would fail counts more.
        syntax("w0;e01;y", 8);
        syntax("e01;w0;", 7);
    }

    private static void syntaxErrors() {
        syntax("", 0);
        syntax(";", 0);
        syntax(" nr1", 0);
        syntax("N", 0);
        syntax("nr1 ", 3);
        syntax("nr1;;", 4);
        syntax("nr1;", 4);
        syntax("nr1;y1;nr", 9);
        syntax("nr1;y1;nr1y", 10);
        syntax("nr1;y1;y1x1", 9);
        syntax("ny1", 1);
        syntax("nR1", 1);
        syntax("a>1", 1);
        syntax("a12>34", 5);
        syntax("a1+1", 2);
        syntax("a123>1", 3);
        syntax("r12>1", 3);
        syntax("j1+2", 2);
        syntax("j1&2&3", 4);
        syntax("j1&234", 5);
        syntax("q12=1", 2);
        syntax("q1=12", 4);
        syntax("b1o", 2);
        syntax("u1x", 2);
        syntax("br1", 1);
        syntax("t1", 2);
        syntax("t12r", 3);
        syntax("t12ox", 4);
        syntax("e1", 2);
        syntax("e123", 3);
        syntax("y-1", 1);
        syntax("y123", 3);
        syntax("d12", 2);
        syntax("d", 1);
        syntax(FULL, 60);
        syntax(FULL.substring(0, 59) + "x", 59);
        syntax("z".repeat(60), 0);
    }

    /** Every character in every place of a command that cannot have it there is a syntax error. */
    private static void everyCharacter() {
        String[] forms = {"nCD", "aN>D", "wN", "pN", "dD", "rN+D", "lN", "mN>D", "jN&N", "kN", "qD=D", "bDC", "uDC",
            "tDDT", "eDD", "yN"};
        String letters = "nawpdrlmjkqbutey";
        for (String form : forms) {
            String start = "";
            for (char part : form.toCharArray()) {
                String right = signs(part);
                for (char sign = 32; sign <= 126; sign++) {
                    boolean fits = start.isEmpty() ? letters.indexOf(sign) >= 0 : right.indexOf(sign) >= 0;
                    boolean secondDigit = digitMayFollow(start, form) && sign >= '0' && sign <= '9';
                    if (!fits && !secondDigit) {
                        syntax(start + sign + "1", start.length());
                    }
                }
                syntax(start, start.length());
                start += right.charAt(0);
            }
        }
    }

    private static String signs(char part) {
        switch (part) {
            case 'N':
            case 'D': return "1023456789";
            case 'C': return "rgbw";
            case 'T': return "osx";
            default: return String.valueOf(part);
        }
    }

    private static boolean digitMayFollow(String start, String form) {
        return !start.isEmpty() && form.charAt(start.length() - 1) == 'N';
    }

    private static void syntax(String input, int offset) {
        SockEmbassy office = Make.office(Make.STATES);
        Make.type(office, input);
        Expect.promise(55);
        Expect.throwing(IllegalArgumentException.class, office, SockEmbassy::execute);
        Expect.promise(56);
        Expect.is(offset, office.syntaxErrorOffset());
        Expect.promise(55);
        Expect.throwing(NoSuchElementException.class, office, SockEmbassy::rejectionReason);
        Expect.is(1, office.appendInput('n'));
        Expect.is(6, office.sockCount());
        Expect.is(0, office.day());
    }

    private static void latestError() {
        Expect.promise(56);
        Expect.fails(NoSuchElementException.class, Make.STATES, SockEmbassy::syntaxErrorOffset);
        SockEmbassy office = new SockEmbassy();
        Make.type(office, "nr12");
        Expect.throwing(IllegalArgumentException.class, office, SockEmbassy::execute);
        Expect.is(3, office.syntaxErrorOffset());
        // Neither an input without an error nor undo nor the snapshot ends it.
        Make.execute(office, "nr1");
        office.saveSnapshot();
        office.undo();
        office.restoreSnapshot();
        Make.type(office, "y0");
        Expect.throwing(IllegalStateException.class, office, SockEmbassy::execute);
        Expect.is(3, office.syntaxErrorOffset());
        Expect.throwing(IllegalArgumentException.class, office, SockEmbassy::execute);
        Expect.is(0, office.syntaxErrorOffset());
        Expect.is(Picture.all(Make.office("nr1")).replace("undo 0", "undo " + IllegalStateException.class.getName())
                .replace("first 0", "first 1"), Picture.all(office));
    }
}
