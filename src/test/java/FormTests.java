import java.util.NoSuchElementException;

/** The terms on commands: what each has behind its letter, and where a syntax error is. */
final class FormTests {
    private static final String SETUP = Make.STATES + " nw9 a6>3 q3=4 d3 t30s b4g";
    private static final String TWENTY = "y1;".repeat(19) + "y1";

    private FormTests() {
    }

    static void run() {
        severalCommands();
        forms();
        numbers();
        offsets();
        letters();
    }

    private static void severalCommands() {
        Expect.term("The input has one or more commands, with \";\" between two of them.");
        syntax("", 0);
        Expect.answers(1, "iy1", SockEmbassy::execute);
        Expect.answers(2, "iy1;y1", SockEmbassy::execute);
        Expect.answers(20, "i" + TWENTY, SockEmbassy::execute);
        syntax(";", 0);
        syntax(";y1", 0);
        syntax("y1;", 3);
        syntax("y1;;y1", 3);
        syntax("y1 ;y1", 2);
        syntax("y1; y1", 3);
        syntax("y1,y1", 2);
        syntax("y1y1", 2);
        syntax(TWENTY + ";", 60);
        syntax(TWENTY + "y", 59);
    }

    private static void forms() {
        Expect.term("\"n\", a colour and a digit adds a sock.");
        form("nCD", "nr1 ng9 nb5 nw2");
        Expect.term("\"a\", a number, \">\" and a digit lets a sock apply to a drawer, \"w\" and a number withdraws");
        form("aN>D", "a0>0 a0>4");
        form("wN", "w1 w2");
        form("pN", "p2");
        Expect.term("\"d\" and a digit decides the applications to a drawer.");
        form("dD", "d0 d2 d4");
        Expect.term("\"r\", a number, \"+\" and a digit renews a visa.");
        form("rN+D", "r5+1 r5+9 r3+4");
        Expect.term("\"l\" and a number lets a resident leave, and \"m\", a number, \">\" and a digit moves it.");
        form("lN", "l5 l6");
        form("mN>D", "m5>0 m6>0");
        Expect.term("\"j\", a number, \"&\" and a number makes a pair, and \"k\" and a number separates one.");
        form("jN&N", "j5&6 j6&5");
        form("kN", "k3 k4");
        Expect.term("\"q\", a digit, \"=\" and a digit sets a quota.");
        form("qD=D", "q4=0 q0=9");
        Expect.term("\"b\" or \"u\", a digit and a colour bans a colour from a drawer or ends a ban.");
        form("bDC", "b0r b4g b4b b4w");
        form("uDC", "u4g u0r u0b u0w");
        Expect.term("\"t\", a digit, a digit and a clause signs a treaty, and \"e\", a digit and a digit ends one.");
        form("tDDT", "t01o t42s t13x");
        form("eDD", "e30 e03");
        Expect.term("\"y\" and a number lets days pass.");
        form("yN", "y1 y20");
    }

    /** The commands do what their calls do, and no other character can stand where the form does not have it. */
    private static void form(String form, String commands) {
        for (String command : commands.split(" ")) {
            SockEmbassy office = Make.office(SETUP);
            Expect.is(1, Make.execute(office, command));
            Expect.same(SETUP + " " + command, () -> Make.office(SETUP + " i" + command + " x"));
        }
        String start = "";
        for (char part : form.toCharArray()) {
            String right = start.isEmpty() ? form.substring(0, 1) : signs(part);
            String also = (start.isEmpty() ? "nawpdrlmjkqbutey" : "") + secondDigits(start, form);
            for (char sign = 32; sign <= 126; sign++) {
                if (right.indexOf(sign) < 0 && also.indexOf(sign) < 0) {
                    syntax(start + sign + "1", start.length());
                }
            }
            syntax(start, start.length());
            start += right.charAt(0);
        }
        for (char sign = 32; sign <= 126; sign++) {
            if (sign != ';' && secondDigits(start, form).indexOf(sign) < 0) {
                syntax(start + sign, start.length());
            }
        }
    }

    private static String signs(char part) {
        switch (part) {
            case 'N':
            case 'D': return "1023456789";
            case 'C': return "rgbw";
            case 'T': return "osx";
            default: return String.valueOf(part);
        }
    }

    /** The digits that can follow the one digit with which a number ends here. */
    private static String secondDigits(String start, String form) {
        return !start.isEmpty() && form.charAt(start.length() - 1) == 'N' ? "0123456789" : "";
    }

    private static void numbers() {
        Expect.term("A number has one or two digits; colours and clauses are single letters.");
        String many = Expect.FOURTEEN + "q1=9 i";
        Expect.answers(4, many + "a0>1;a01>1;a10>1;a13>1", SockEmbassy::execute);
        Expect.answers(3, many + "a0>1;a01>1;a10>1;a13>1 x id1;j00&1;j13&10", SockEmbassy::execute);
        Expect.answers(10, many + "a10>1;a13>1;d1;j13&10 x", x -> x.partnerOf(13));
        Expect.answers(true, many + "a0>1;a00>1 !x ia00>1 x", x -> x.isPending(0));
        Expect.answers(29, "iy09;y20 x", SockEmbassy::day);
        syntax("y", 1);
        syntax("y123", 3);
        syntax("y001", 3);
        syntax("a>1", 1);
        syntax("a123>1", 3);
        syntax("a12>34", 5);
        syntax("j1&234", 5);
        syntax("j123&1", 3);
        syntax("q12=1", 2);
        syntax("q1=12", 4);
        syntax("r1+12", 4);
        syntax("d12", 2);
        syntax("t123o", 3);
        syntax("e123", 3);
        syntax("nr12", 3);
        syntax("nrr1", 2);
        syntax("b1rg", 3);
        syntax("t12os", 4);
    }

    private static void offsets() {
        Expect.term("The offset of a syntax error is the index of the first character that cannot follow the");
        syntax(" nr1", 0);
        syntax("N", 0);
        syntax("nr1 ", 3);
        syntax("nr1;;", 4);
        syntax("nr1;y1;nr1y", 10);
        syntax("nr1;y1;y1x1", 9);
        syntax("a1+1", 2);
        syntax("a12+1", 3);
        syntax("j1&2&3", 4);
        syntax("y-1", 1);
        syntax("z".repeat(60), 0);
        syntax(TWENTY + "x", 59);
        // The input ends too early: the offset is its length.
        syntax("", 0);
        syntax("n", 1);
        syntax("nr", 2);
        syntax("a12", 3);
        syntax("nr1;", 4);
        syntax("nr1;y1;nr", 9);
        syntax("t12", 3);
        syntax(TWENTY + ";", 60);
        syntax("y1;".repeat(19) + "t12", 60);
        // The first one counts, and it counts more than a command that would fail.
        syntax("y1;x;z", 3);
        syntax("w0;e01;y", 8);
        syntax("e01;w0;", 7);
        syntax("a99>9;nr0;?", 10);
    }

    private static void letters() {
        Expect.term("In a command, a letter that is not a colour or a clause where one is needed is a syntax error.");
        for (char letter : "acdefhijklmnopqstuvxyzRGBW".toCharArray()) {
            syntax("n" + letter + "1", 1);
            syntax("b1" + letter, 2);
            syntax("u4" + letter, 2);
        }
        for (char letter : "abcdefghijklmnpqrtuvwyzOSX".toCharArray()) {
            syntax("t12" + letter, 3);
        }
    }

    private static void syntax(String input, int offset) {
        SockEmbassy office = Make.office(Make.STATES);
        Make.type(office, input);
        Expect.throwing(IllegalArgumentException.class, office, SockEmbassy::execute);
        Expect.is(offset, office.syntaxErrorOffset());
        Expect.throwing(NoSuchElementException.class, office, SockEmbassy::rejectionReason);
        Expect.is(6, office.sockCount());
        Expect.is(0, office.day());
    }
}
