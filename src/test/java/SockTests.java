import java.util.NoSuchElementException;

/** Promises 1 to 14: the socks and their states. */
final class SockTests {
    private static final String NO_ELEMENT = NoSuchElementException.class.getName();

    private SockTests() {
    }

    static void run() {
        aNewOffice();
        adding();
        refusedSocks();
        counting();
        colours();
        sizes();
        away();
        pending();
        refused();
        residents();
        drawers();
        levels();
        visas();
        partners();
        matching();
        matchingItself();
    }

    private static void aNewOffice() {
        Expect.promise(1);
        Expect.sentence("Creates an office without socks and treaties.");
        Expect.answers(0, "", SockEmbassy::sockCount);
        Expect.outside("", SockEmbassy::isAway, -1, 0, 1);
        for (int first = 0; first < 5; first++) {
            for (int second = 0; second < 5; second++) {
                int one = first;
                int other = second;
                Expect.answers(NO_ELEMENT, "", x -> x.clauseOf(one, other));
            }
        }
        Expect.answers(1, "", x -> x.signTreaty(0, 1, 'o'));
        // What one office does is nothing to another.
        SockEmbassy one = Make.office("nr5 t12o y1");
        SockEmbassy other = new SockEmbassy();
        Expect.is(1, one.sockCount());
        Expect.is(0, other.sockCount());
        Expect.throwing(NoSuchElementException.class, other, x -> x.clauseOf(1, 2));
    }

    private static void adding() {
        Expect.promise(2);
        Expect.sentence("Adds a sock, which is away.");
        SockEmbassy office = Make.office("nr1 a0>1 d1");
        office.addSock('g', 9);
        Expect.is(true, office.isAway(1));
        Expect.is(false, office.isPending(1) || office.isRefused(1) || office.isResident(1));
        Expect.is(true, office.isResident(0));
        Expect.answers(true, Expect.FOURTEEN, x -> x.isAway(13));
        Expect.sentence("- `colour`: the colour: 'r' for red, 'g' for green, 'b' for blue, 'w' for white");
        for (char colour : "rgbw".toCharArray()) {
            Expect.answers(0, "", x -> x.addSock(colour, 5));
        }
        Expect.sentence("- `size`: the size, 1 to 9");
        for (int size = 1; size <= 9; size++) {
            int some = size;
            Expect.answers(0, "", x -> x.addSock('r', some));
        }
        Expect.answers(IllegalArgumentException.class.getName(), "", x -> x.addSock('r', 0));
        Expect.answers(IllegalArgumentException.class.getName(), "", x -> x.addSock('r', 10));
        Expect.sentence("Returns the index of the sock.");
        SockEmbassy full = new SockEmbassy();
        for (int sock = 0; sock < 14; sock++) {
            Expect.is(sock, full.addSock('w', 1 + sock % 9));
        }
    }

    private static void refusedSocks() {
        Expect.promise(2);
        Expect.sentence("Throws `IllegalArgumentException` if there is no such colour, or size is out of range");
        for (char colour : "\0 acefhqsvxRGBW\u0172\uffff".toCharArray()) {
            Expect.fails(IllegalArgumentException.class, "nr5", x -> x.addSock(colour, 5));
        }
        for (int size : new int[] {Integer.MIN_VALUE, -1, 0, 10, 11, Integer.MAX_VALUE}) {
            Expect.fails(IllegalArgumentException.class, "nr5", x -> x.addSock('r', size));
        }
        Expect.fails(IllegalArgumentException.class, Expect.FOURTEEN, x -> x.addSock('y', 2));
        Expect.fails(IllegalArgumentException.class, Expect.FOURTEEN, x -> x.addSock('r', 10));
        Expect.sentence("Throws `UnsupportedOperationException` if the call is rejected with the reason SOCK_LIMIT");
        Expect.answers(13, "nr1 ".repeat(13), x -> x.addSock('g', 2));
        Expect.rejects(SockEmbassy.SOCK_LIMIT, 14, Expect.FOURTEEN, x -> x.addSock('g', 2));
    }

    private static void counting() {
        Expect.promise(3);
        Expect.sentence("Returns the number of socks.");
        for (int socks = 0; socks <= 14; socks++) {
            Expect.answers(socks, "nr1 ".repeat(socks), SockEmbassy::sockCount);
        }
        Expect.answers(14, Expect.FOURTEEN + "!nr1", SockEmbassy::sockCount);
        Expect.answers(6, Make.STATES + " l5 w1 w2 y20 k3 y1", SockEmbassy::sockCount);
    }

    private static void colours() {
        Expect.promise(4);
        Expect.sentence("Returns the colour of a sock.", "Returns 'r', 'g', 'b' or 'w'.");
        SockEmbassy office = Make.office("nr1 ng9 nb5 nw4 nw1 nb1 ng1 nr1");
        for (int sock = 0; sock < 8; sock++) {
            Expect.is("rgbwwbgr".charAt(sock), office.colourOf(sock));
        }
        Expect.answers('w', "nr1 ".repeat(13) + "nw1", x -> x.colourOf(13));
        Expect.socks(SockEmbassy::colourOf);
    }

    private static void sizes() {
        Expect.promise(5);
        Expect.sentence("Returns the size of a sock.", "Returns the size.");
        SockEmbassy office = Make.office("nr1 ng2 nb3 nw4 nr5 ng6 nb7 nw8 nr9");
        for (int sock = 0; sock < 9; sock++) {
            Expect.is(sock + 1, office.sizeOf(sock));
        }
        Expect.answers(9, "nr1 ".repeat(13) + "nw9", x -> x.sizeOf(13));
        Expect.socks(SockEmbassy::sizeOf);
    }

    private static void away() {
        Expect.promise(6);
        Expect.sentence("Tells whether a sock is away.", "Returns whether it is away.");
        states("tfffff", SockEmbassy::isAway);
        Expect.answers(false, Make.STATES + " a0>0", x -> x.isAway(0));
        Expect.answers(true, Make.STATES + " w1", x -> x.isAway(1));
        Expect.answers(true, Make.STATES + " w2", x -> x.isAway(2));
        Expect.answers(true, Make.STATES + " l5", x -> x.isAway(5));
        Expect.answers(false, Make.STATES + " y10", x -> x.isAway(5));
        Expect.answers(true, Make.STATES + " y11", x -> x.isAway(5));
        Expect.socks(SockEmbassy::isAway);
    }

    private static void pending() {
        Expect.promise(7);
        Expect.sentence("Tells whether a sock is pending.", "Returns whether it has an application that is not");
        states("ftffff", SockEmbassy::isPending);
        Expect.answers(true, Make.STATES + " a0>0", x -> x.isPending(0));
        Expect.answers(false, Make.STATES + " d2", x -> x.isPending(1));
        Expect.answers(false, Make.STATES + " q2=0 d2", x -> x.isPending(1));
        Expect.answers(false, Make.STATES + " w1", x -> x.isPending(1));
        Expect.answers(true, Make.STATES + " p2", x -> x.isPending(2));
        Expect.answers(true, Make.STATES + " d0 d1 d3 d4 y20", x -> x.isPending(1));
        Expect.socks(SockEmbassy::isPending);
    }

    private static void refused() {
        Expect.promise(8);
        Expect.sentence("Tells whether a sock is refused.", "Returns whether its application was refused.");
        states("fftfff", SockEmbassy::isRefused);
        Expect.answers(true, Make.STATES + " q2=0 d2", x -> x.isRefused(1));
        Expect.answers(false, Make.STATES + " p2", x -> x.isRefused(2));
        Expect.answers(true, Make.STATES + " p2 d1", x -> x.isRefused(2));
        Expect.answers(false, Make.STATES + " w2", x -> x.isRefused(2));
        Expect.answers(true, Make.STATES + " q1=9 d1 y20", x -> x.isRefused(2));
        Expect.socks(SockEmbassy::isRefused);
    }

    private static void residents() {
        Expect.promise(9);
        Expect.sentence("Tells whether a sock is a resident of a drawer.", "Returns whether it is a resident.");
        states("fffttt", SockEmbassy::isResident);
        Expect.answers(true, Make.STATES + " d2", x -> x.isResident(1));
        Expect.answers(false, Make.STATES + " l5", x -> x.isResident(5));
        Expect.answers(true, Make.STATES + " y10", x -> x.isResident(5));
        Expect.answers(false, Make.STATES + " y11", x -> x.isResident(5));
        Expect.answers(true, Make.STATES + " y20", x -> x.isResident(3));
        Expect.answers(true, Make.STATES + " t30o m5>0", x -> x.isResident(5));
        Expect.socks(SockEmbassy::isResident);
    }

    /** The answers for the six socks of Make.STATES: t for true. */
    private static void states(String due, Expect.IndexCall call) {
        SockEmbassy office = Make.office(Make.STATES);
        for (int sock = 0; sock < 6; sock++) {
            Expect.is(due.charAt(sock) == 't', call.on(office, sock));
        }
    }

    private static void drawers() {
        Expect.promise(10);
        Expect.sentence("Returns the drawer of a sock: the one of which it is a resident, or to which it has applied.",
                "Returns the index of the drawer.");
        for (int drawer = 0; drawer < 5; drawer++) {
            Expect.answers(drawer, "nr1 a0>" + drawer, x -> x.drawerOf(0));
            Expect.answers(drawer, "nr1 a0>" + drawer + " d" + drawer, x -> x.drawerOf(0));
            Expect.answers(drawer, "nr1 q" + drawer + "=0 a0>" + drawer + " d" + drawer, x -> x.drawerOf(0));
        }
        Expect.answers(1, Make.STATES + " p2", x -> x.drawerOf(2));
        Expect.answers(0, Make.STATES + " t30o m5>0", x -> x.drawerOf(5));
        Expect.answers(4, Make.STATES + " w2 a2>4", x -> x.drawerOf(2));
        Expect.socks(SockEmbassy::drawerOf);
        Expect.sentence("Throws `NoSuchElementException` if the sock is away");
        Expect.fails(NoSuchElementException.class, Make.STATES, x -> x.drawerOf(0));
        Expect.fails(NoSuchElementException.class, Make.STATES + " w1", x -> x.drawerOf(1));
        Expect.fails(NoSuchElementException.class, Make.STATES + " w2", x -> x.drawerOf(2));
        Expect.fails(NoSuchElementException.class, Make.STATES + " l5", x -> x.drawerOf(5));
        Expect.fails(NoSuchElementException.class, Make.STATES + " y11", x -> x.drawerOf(5));
    }

    private static void levels() {
        Expect.promise(11);
        Expect.sentence("Returns the level of the application of a sock that is pending or refused.",
                "Returns the level, 1 to 3.");
        Expect.answers(1, Make.STATES, x -> x.levelOf(1));
        Expect.answers(1, Make.STATES, x -> x.levelOf(2));
        Expect.answers(2, Make.STATES + " p2", x -> x.levelOf(2));
        Expect.answers(2, Make.STATES + " p2 d1", x -> x.levelOf(2));
        Expect.answers(3, Make.STATES + " p2 d1 p2", x -> x.levelOf(2));
        Expect.answers(3, Make.STATES + " p2 d1 p2 d1", x -> x.levelOf(2));
        Expect.answers(3, Make.STATES + " p2 d1 p2 d1 !p2", x -> x.levelOf(2));
        Expect.answers(1, Make.STATES + " p2 w2 a2>1", x -> x.levelOf(2));
        Expect.socks(SockEmbassy::levelOf);
        Expect.sentence("Throws `NoSuchElementException` if the sock is neither pending nor refused");
        for (int sock : new int[] {0, 3, 4, 5}) {
            Expect.fails(NoSuchElementException.class, Make.STATES, x -> x.levelOf(sock));
        }
        Expect.fails(NoSuchElementException.class, Make.STATES + " w1", x -> x.levelOf(1));
        Expect.fails(NoSuchElementException.class, Make.STATES + " d2", x -> x.levelOf(1));
    }

    private static void visas() {
        Expect.promise(12);
        Expect.sentence("Returns the last day on which the visa of a resident is valid.", "Returns the day.");
        Expect.answers(10, Make.STATES, x -> x.visaDay(5));
        Expect.answers(10, Make.STATES + " y10", x -> x.visaDay(5));
        Expect.answers(20, Make.STATES + " r5+9 r5+1", x -> x.visaDay(5));
        Expect.answers(14, Make.STATES + " y4 d2", x -> x.visaDay(1));
        // The visa of a sock that is paired can have ended.
        Expect.answers(10, Make.STATES + " y20", x -> x.visaDay(3));
        Expect.socks(SockEmbassy::visaDay);
        Expect.sentence("Throws `NoSuchElementException` if the sock is not a resident");
        for (int sock : new int[] {0, 1, 2}) {
            Expect.fails(NoSuchElementException.class, Make.STATES, x -> x.visaDay(sock));
        }
        Expect.fails(NoSuchElementException.class, Make.STATES + " l5", x -> x.visaDay(5));
        Expect.fails(NoSuchElementException.class, Make.STATES + " y11", x -> x.visaDay(5));
    }

    private static void partners() {
        Expect.promise(13);
        Expect.sentence("Returns the partner of a paired sock.", "Returns the index of the other sock of the pair.");
        Expect.answers(4, Make.STATES, x -> x.partnerOf(3));
        Expect.answers(3, Make.STATES, x -> x.partnerOf(4));
        Expect.answers(13, Expect.FOURTEEN + "a0>0 a13>0 d0 j0&13", x -> x.partnerOf(0));
        Expect.answers(0, Expect.FOURTEEN + "a0>0 a13>0 d0 j0&13", x -> x.partnerOf(13));
        Expect.socks(SockEmbassy::partnerOf);
        Expect.sentence("Throws `NoSuchElementException` if the sock is not paired");
        for (int sock : new int[] {0, 1, 2, 5}) {
            Expect.fails(NoSuchElementException.class, Make.STATES, x -> x.partnerOf(sock));
        }
        Expect.fails(NoSuchElementException.class, Make.STATES + " k4", x -> x.partnerOf(3));
        Expect.fails(NoSuchElementException.class, Make.STATES + " k4", x -> x.partnerOf(4));
    }

    private static void matching() {
        Expect.promise(14);
        Expect.sentence("Tells whether two socks match.");
        SockEmbassy office = Make.office("nr5 nr5 ng5 nw5 nw5 nr6 nw6 nb5");
        String[] due = {"01011000", "10011000", "00011000", "11101001", "11110001", "00000010", "00000100", "00011000"};
        for (int first = 0; first < 8; first++) {
            for (int second = 0; second < 8; second++) {
                Expect.is(due[first].charAt(second) == '1', office.matches(first, second));
            }
        }
        // It does not matter where the socks are.
        Expect.answers(true, Make.STATES, x -> x.matches(3, 4));
        Expect.answers(true, Make.STATES + " nw1 a6>4 d4", x -> x.matches(0, 6));
    }

    private static void matchingItself() {
        Expect.promise(14);
        Expect.sentence("Returns whether they match; false if both arguments are the same sock.");
        for (int sock = 0; sock < 6; sock++) {
            int same = sock;
            Expect.answers(false, Make.STATES, x -> x.matches(same, same));
        }
        Expect.answers(true, Expect.FOURTEEN, x -> x.matches(0, 13));
        Expect.answers(false, Expect.FOURTEEN, x -> x.matches(13, 13));
        Expect.sentence("Throws `IndexOutOfBoundsException` if there is no such sock, for either argument");
        Expect.everySock((x, sock) -> x.matches(sock, 0));
        Expect.everySock((x, sock) -> x.matches(0, sock));
        Expect.everySock((x, sock) -> x.matches(sock, sock));
    }
}
