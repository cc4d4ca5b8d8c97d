import java.lang.reflect.InvocationTargetException;
import java.lang.reflect.Method;
import java.lang.reflect.Modifier;
import java.util.Arrays;
import java.util.List;
import java.util.NoSuchElementException;
import java.util.Set;
import java.util.TreeSet;
import java.util.function.Consumer;

/** The terms on rejections, changes and exceptions, and the number of calls. */
final class RefusalTests {
    private static final Class<?> INDEX = IndexOutOfBoundsException.class;
    private static final Class<?> ARGUMENT = IllegalArgumentException.class;
    private static final Class<?> REJECTION = UnsupportedOperationException.class;
    // Sock 6 is a white resident of drawer 3 too, that matches 5; a ban, and a treaty of drawer 3 with drawer 0.
    private static final String SETUP = Make.STATES + " nw9 a6>3 q3=4 d3 t30s b4g";
    private static final List<String> CHANGES = List.of("addSock", "apply", "withdraw", "appeal", "decide", "renew",
            "leave", "move", "pair", "separate", "setQuota", "ban", "unban", "signTreaty", "endTreaty", "passDays",
            "execute");
    private static final List<String> OTHERS = List.of("appendInput", "writeSock", "undo", "saveSnapshot",
            "restoreSnapshot");

    private RefusalTests() {
    }

    static void run() throws IllegalAccessException {
        firstReasons();
        reasons();
        rejectedCalls();
        changes();
        noChanges();
        onlyTelling();
        latestChanges();
        covered();
        exceptions();
        firstExceptions();
        manyCalls();
    }

    private static void firstReasons() {
        Expect.term("A call is rejected for the first reason that applies, in the order in which its method names");
        // A sock that has left has a visa no more, nor has one with an application of the last level.
        Expect.rejects(SockEmbassy.NOT_RESIDENT, 5, Make.STATES + " r5+9 r5+1 l5", x -> x.renew(5, 9));
        Expect.rejects(SockEmbassy.NOT_REFUSED, 2, Make.STATES + " p2 d1 p2", x -> x.appeal(2));
        // Each reason of move and pair, with all that come behind it.
        String move = Make.STATES + " nw1 nw2 nw3 a6>0 a7>0 a8>0 d0 q0=2 b0r b0w b0g";
        Expect.rejects(SockEmbassy.NOT_RESIDENT, 0, move, x -> x.move(0, 0));
        Expect.rejects(SockEmbassy.PAIRED, 4, move, x -> x.move(3, 0));
        Expect.rejects(SockEmbassy.NO_TREATY, 3, move, x -> x.move(5, 0));
        Expect.rejects(SockEmbassy.CLAUSE, 3, move + " t03x", x -> x.move(5, 0));
        Expect.rejects(SockEmbassy.QUOTA, 2, move + " t03o", x -> x.move(5, 0));
        Expect.rejects(SockEmbassy.BANNED, 5, move + " t03o q0=4", x -> x.move(5, 0));
        String pair = "nr1 nr2 nr1 nr2 ng1 ng1 a0>0 a1>0 d0 a2>1 a3>1 d1 q0=9 a4>0 a5>0 d0 j4&5";
        Expect.rejects(SockEmbassy.NOT_RESIDENT, 1, pair + " l1 l3", x -> x.pair(1, 3));
        Expect.rejects(SockEmbassy.NOT_RESIDENT, 1, pair + " l1", x -> x.pair(1, 4));
        Expect.rejects(SockEmbassy.NOT_RESIDENT, 1, pair + " l1", x -> x.pair(4, 1));
        Expect.rejects(SockEmbassy.OTHER_DRAWER, 1, pair, x -> x.pair(4, 3));
        Expect.rejects(SockEmbassy.OTHER_DRAWER, 0, pair, x -> x.pair(3, 4));
        Expect.rejects(SockEmbassy.PAIRED, 4, pair, x -> x.pair(5, 4));
        Expect.rejects(SockEmbassy.PAIRED, 5, pair, x -> x.pair(1, 4));
        Expect.rejects(SockEmbassy.NO_MATCH, 2, pair, x -> x.pair(0, 1));
        // Of a command, the reason is that of its method.
        Expect.answers(SockEmbassy.CLAUSE, move + " t03x im5>0 !x", SockEmbassy::causeReason);
    }

    private static void reasons() {
        Expect.term("Every reason is a constant, and has a detail that is described there.");
        int[] constants = {SockEmbassy.SOCK_LIMIT, SockEmbassy.NOT_AWAY, SockEmbassy.NO_APPLICATION,
            SockEmbassy.NOT_REFUSED, SockEmbassy.FINAL_LEVEL, SockEmbassy.NOT_RESIDENT, SockEmbassy.VISA_LIMIT,
            SockEmbassy.PAIRED, SockEmbassy.NOT_PAIRED, SockEmbassy.OTHER_DRAWER, SockEmbassy.NO_MATCH,
            SockEmbassy.NO_TREATY, SockEmbassy.CLAUSE, SockEmbassy.QUOTA, SockEmbassy.BANNED,
            SockEmbassy.TREATY_EXISTS, SockEmbassy.COMMAND_REJECTED};
        for (int i = 0; i < constants.length; i++) {
            Expect.is(i + 1, constants[i]);
        }
    }

    private static void rejectedCalls() {
        Expect.term("A rejected call changes nothing but the latest rejection.");
        Expect.rejects(SockEmbassy.SOCK_LIMIT, 14, Expect.FOURTEEN + "a3>1 d1", x -> x.addSock('r', 1));
        Expect.rejects(SockEmbassy.NOT_AWAY, 3, SETUP, x -> x.apply(6, 0));
        Expect.rejects(SockEmbassy.NO_APPLICATION, 6, SETUP, x -> x.withdraw(6));
        Expect.rejects(SockEmbassy.NOT_REFUSED, 1, SETUP, x -> x.appeal(1));
        Expect.rejects(SockEmbassy.FINAL_LEVEL, 1, SETUP + " p2 d1 p2 d1", x -> x.appeal(2));
        Expect.rejects(SockEmbassy.VISA_LIMIT, 19, SETUP + " r5+9", x -> x.renew(5, 9));
        Expect.rejects(SockEmbassy.NOT_RESIDENT, 1, SETUP, x -> x.leave(1));
        Expect.rejects(SockEmbassy.NOT_PAIRED, 6, SETUP, x -> x.separate(6));
        Expect.rejects(SockEmbassy.PAIRED, 3, SETUP, x -> x.move(4, 0));
        Expect.rejects(SockEmbassy.NO_TREATY, 3, SETUP, x -> x.move(6, 3));
        Expect.rejects(SockEmbassy.NO_MATCH, 4, SETUP + " k3", x -> x.pair(5, 4));
        Expect.rejects(SockEmbassy.TREATY_EXISTS, 1, SETUP, x -> x.signTreaty(3, 0, 'x'));
        // In place of an earlier rejection of a command, there is no cause any more.
        Expect.answers(NoSuchElementException.class.getName(), SETUP + " iw0 !x !l3", SockEmbassy::causeReason);
    }

    private static void changes() {
        Expect.term("A change is a call of addSock, apply, withdraw, appeal, decide, renew, leave, move, pair,");
        String[] words = {"nr1", "a0>1", "w1", "p2", "d2", "r5+1", "l5", "m5>0", "j5&6", "k3", "q1=2", "b1r", "u4g",
            "t12x", "e03", "y1", "iy1 x"};
        Expect.is(CHANGES.size(), words.length);
        for (String word : words) {
            Expect.is(Picture.data(Make.office(SETUP)), Picture.data(Make.office(SETUP + " " + word + " U")));
            Expect.answers(2, SETUP + " S R y1 y1 " + word, SockEmbassy::undo);
        }
        // Also if nothing is different after it.
        for (String word : new String[] {"d0", "q1=0", "b4g", "u1r", "id0 x"}) {
            Expect.is(Picture.data(Make.office(SETUP)), Picture.data(Make.office(SETUP + " " + word)));
            Expect.answers(1, SETUP + " S R y1 " + word, SockEmbassy::undo);
            Expect.answers(1, SETUP + " S R y1 " + word + " U", SockEmbassy::day);
        }
    }

    private static void noChanges() {
        Expect.term("A change is a call of addSock, apply, withdraw, appeal, decide, renew, leave, move, pair,");
        // Calls that throw, and calls that are not named.
        for (String word : new String[] {"!nr0", "!a6>0", "!w0", "!p5", "!d5", "!r0+1", "!l3", "!m3>0", "!j3&5", "!k5",
            "!q1=10", "!b5r", "!u1y", "!t30o", "!e12", "!y21", "!x", "iy0 !x", "il3 !x", "iy", "o5", "S"}) {
            Expect.answers(0, SETUP + " S R y1 " + word, SockEmbassy::undo);
        }
        Expect.answers(0, SETUP + " S R y1 y1 U", SockEmbassy::undo);
        Expect.answers(IllegalStateException.class.getName(), SETUP + " y1 S R", SockEmbassy::undo);
    }

    /** No call that is neither a change nor one of the others changes anything, whatever it answers. */
    private static void onlyTelling() throws IllegalAccessException {
        Expect.term("A call that throws an exception changes nothing, except where this is stated.");
        Set<String> names = new TreeSet<>();
        for (Method method : SockEmbassy.class.getDeclaredMethods()) {
            if (Modifier.isPublic(method.getModifiers()) && !CHANGES.contains(method.getName())
                    && !OTHERS.contains(method.getName())) {
                names.add(method.getName());
                for (int number : new int[] {-1, 0, 2, 3, 5, 14}) {
                    Expect.onlyTells(SETUP, x -> told(method, x, number));
                }
            }
        }
        Expect.is(61 - CHANGES.size() - OTHERS.size(), names.size());
    }

    private static Object told(Method method, SockEmbassy office, int number) {
        Object[] arguments = Arrays.stream(method.getParameterTypes())
                .map(type -> type == char.class ? (Object) (number == 14 ? 'y' : 'r') : (Object) number).toArray();
        try {
            return method.invoke(office, arguments);
        } catch (InvocationTargetException | IllegalAccessException e) {
            return "an exception";
        }
    }

    private static void latestChanges() {
        Expect.term("The latest 8 changes can be undone.");
        for (int changes = 0; changes <= 20; changes++) {
            SockEmbassy office = Make.office("y1 ".repeat(changes));
            int kept = Math.min(changes, 8);
            for (int left = kept - 1; left >= 0; left--) {
                Expect.is(left, office.undo());
            }
            Expect.throwing(IllegalStateException.class, office, SockEmbassy::undo);
            Expect.is(changes - kept, office.day());
        }
    }

    private static void covered() {
        Expect.term("Undo and the snapshot cover everything but the input, the output, the latest rejection and the");
        String changes = " nb2 a0>0 d0 r5+3 l6 k3 q1=5 b0r u4g t12o e30 y11 y2";
        String before = Picture.data(Make.office(SETUP));
        Expect.is(before, Picture.data(Make.office(SETUP + " S" + changes + " R")));
        Expect.is(before, Picture.data(Make.office(SETUP + " i" + changes.trim().replace(' ', ';') + " x U")));
        for (String back : new String[] {"U", "R"}) {
            String setup = SETUP + " S o5 il3 !x in !x iy l5 ";
            SockEmbassy office = Make.office(setup + back);
            Expect.is(true, office.isResident(5));
            Expect.is(SockEmbassy.COMMAND_REJECTED, office.rejectionReason());
            Expect.is(0, office.rejectionDetail());
            Expect.is(SockEmbassy.PAIRED, office.causeReason());
            Expect.is(1, office.syntaxErrorOffset());
            Expect.is('@', office.outputAt(4));
            Expect.is(2, office.appendInput('7'));
            Expect.is(1, office.execute());
            Expect.is(7, office.day());
            // What came behind the change stays too.
            Expect.answers('6', setup + "o6 " + back, x -> x.outputAt(0));
            Expect.answers(3, setup + "i1 " + back, x -> x.appendInput('7'));
            Expect.answers(SockEmbassy.NOT_PAIRED, setup + "!k0 " + back, SockEmbassy::rejectionReason);
            Expect.answers(3, setup + "i1; !x " + back, SockEmbassy::syntaxErrorOffset);
        }
    }

    private static void exceptions() {
        Expect.term("A call that throws an exception changes nothing, except where this is stated.");
        throwing(ARGUMENT, x -> x.addSock('x', 1), x -> x.addSock('r', 0), x -> x.renew(5, 10), x -> x.pair(5, 5),
                x -> x.setQuota(1, 10), x -> x.ban(1, 'x'), x -> x.unban(4, 'x'), x -> x.signTreaty(1, 1, 'o'),
                x -> x.signTreaty(1, 2, 'y'), x -> x.passDays(21), x -> x.appendInput('\n'));
        throwing(INDEX, x -> x.apply(0, 5), x -> x.apply(7, 0), x -> x.withdraw(7), x -> x.appeal(-1),
                x -> x.decide(5), x -> x.renew(7, 1), x -> x.leave(7), x -> x.move(5, 5), x -> x.move(7, 0),
                x -> x.pair(7, 5), x -> x.pair(5, 7), x -> x.separate(7), x -> x.setQuota(5, 1), x -> x.ban(5, 'r'),
                x -> x.unban(-1, 'g'), x -> x.signTreaty(5, 1, 'o'), x -> x.signTreaty(1, 5, 'o'),
                x -> x.endTreaty(3, 5), x -> x.endTreaty(5, 3), x -> x.writeSock(7));
        throwing(NoSuchElementException.class, x -> x.endTreaty(1, 3), x -> x.endTreaty(3, 3));
        Expect.failsOnce(IllegalStateException.class, SETUP, SockEmbassy::restoreSnapshot);
        Expect.fails(IllegalStateException.class, "", SockEmbassy::undo);
    }

    @SafeVarargs
    private static void throwing(Class<?> type, Consumer<SockEmbassy>... calls) {
        for (Consumer<SockEmbassy> call : calls) {
            Expect.fails(type, SETUP, call);
        }
    }

    private static void firstExceptions() {
        Expect.term("If several exceptions of a method apply, the one that is listed first is thrown.");
        Expect.fails(ARGUMENT, Expect.FOURTEEN, x -> x.addSock('x', 10));
        Expect.fails(INDEX, SETUP, x -> x.apply(3, 5));
        Expect.fails(INDEX, SETUP, x -> x.queueAt(5, -1));
        Expect.fails(INDEX, SETUP, x -> x.residentAt(5, -1));
        Expect.fails(INDEX, SETUP, x -> x.renew(7, 0));
        Expect.fails(ARGUMENT, SETUP, x -> x.renew(0, 0));
        Expect.fails(ARGUMENT, SETUP + " r5+9", x -> x.renew(5, 10));
        Expect.fails(INDEX, SETUP, x -> x.move(3, 5));
        Expect.fails(INDEX, SETUP, x -> x.move(0, 5));
        Expect.fails(INDEX, SETUP, x -> x.pair(7, 7));
        Expect.fails(INDEX, SETUP, x -> x.pair(0, 7));
        Expect.fails(ARGUMENT, SETUP, x -> x.pair(0, 0));
        Expect.fails(ARGUMENT, SETUP, x -> x.pair(3, 3));
        Expect.fails(INDEX, SETUP, x -> x.setQuota(5, 10));
        Expect.fails(INDEX, SETUP, x -> x.ban(5, 'x'));
        Expect.fails(INDEX, SETUP, x -> x.unban(5, 'x'));
        Expect.fails(INDEX, SETUP, x -> x.isBanned(5, 'x'));
        Expect.fails(INDEX, SETUP, x -> x.signTreaty(5, 5, 'y'));
        Expect.fails(ARGUMENT, SETUP, x -> x.signTreaty(0, 0, 'o'));
        Expect.fails(ARGUMENT, SETUP, x -> x.signTreaty(0, 3, 'y'));
        Expect.fails(INDEX, SETUP, x -> x.endTreaty(5, 5));
        Expect.fails(INDEX, SETUP, x -> x.clauseOf(5, 5));
        Expect.failsOnce(ARGUMENT, "i" + "z".repeat(60), x -> x.appendInput('\n'));
        // Execute: a syntax error counts most; of the commands, the first that fails.
        Expect.answers(ARGUMENT.getName(), SETUP + " iw0;e12;y", SockEmbassy::execute);
        Expect.answers(ARGUMENT.getName(), SETUP + " ie12;w0;y", SockEmbassy::execute);
        Expect.answers(IllegalStateException.class.getName(), SETUP + " ie12;w0;y1", SockEmbassy::execute);
        Expect.answers(REJECTION.getName(), SETUP + " iw0;e12;y1", SockEmbassy::execute);
    }

    private static void manyCalls() {
        Expect.whatItIs("An object is used for at most 512 calls after it has been made; what later calls answer is");
        SockEmbassy days = new SockEmbassy();
        for (int call = 1; call <= 511; call++) {
            days.passDays(20);
        }
        Expect.is(10220, days.day());
        // The dearest calls: all socks housed, and the longest inputs.
        SockEmbassy full = Make.office("nw1 ".repeat(14) + "q0=9 q1=9 a0>0 a1>0 a2>0 a3>0 a4>0 a5>0 a6>0 a7>0 a8>0"
                + " a9>1 a10>1 a11>1 a12>1 a13>1 d0 d1");
        for (int call = 33; call <= 511; call++) {
            Expect.is(true, full.isConsistent());
        }
        Expect.is(14, full.passDays(20));
        SockEmbassy inputs = new SockEmbassy();
        for (int input = 1; input <= 8; input++) {
            Make.type(inputs, "y9;".repeat(20).substring(0, 59));
            Expect.is(20, inputs.execute());
            Expect.is(180 * input, inputs.day());
        }
        for (int left = 7; left >= 0; left--) {
            Expect.is(left, inputs.undo());
        }
        Expect.is(0, inputs.day());
    }
}
