import java.util.NoSuchElementException;

/** Promises 1 to 14: the socks and their states. */
final class SockTests {
    private SockTests() {
    }

    static void run() {
        aNewOffice();
        adding();
        coloursAndSizes();
        states();
        drawers();
        levels();
        visas();
        partners();
        matching();
    }

    private static void aNewOffice() {
        Expect.promise(1);
        SockEmbassy office = new SockEmbassy();
        Expect.is(0, office.sockCount());
        Expect.is(0, office.day());
        for (int first = 0; first < 5; first++) {
            int drawer = first;
            Expect.is(3, office.quotaOf(drawer));
            Expect.is(0, office.residents(drawer));
            Expect.is(0, office.pendingCount(drawer));
            for (char colour : "rgbw".toCharArray()) {
                Expect.is(false, office.isBanned(drawer, colour));
            }
            for (int second = 0; second < 5; second++) {
                int other = second;
                Expect.throwing(NoSuchElementException.class, office, x -> x.clauseOf(drawer, other));
            }
        }
        Make.run(office, "nr5");
        Expect.is(0, new SockEmbassy().sockCount());
    }

    private static void adding() {
        Expect.promise(2);
        SockEmbassy office = new SockEmbassy();
        Expect.is(0, office.addSock('r', 1));
        Expect.is(1, office.addSock('g', 9));
        Expect.is(2, office.addSock('b', 5));
        Expect.is(3, office.addSock('w', 2));
        Expect.is(true, office.isAway(3));
        for (char colour : "\0 RGBWaqsvx~\u0172\uffff".toCharArray()) {
            Expect.fails(IllegalArgumentException.class, "nr5", x -> x.addSock(colour, 5));
        }
        for (int size : new int[] {Integer.MIN_VALUE, -1, 0, 10, 11, Integer.MAX_VALUE}) {
            Expect.fails(IllegalArgumentException.class, "nr5", x -> x.addSock('r', size));
        }
        Expect.promise(3);
        SockEmbassy full = new SockEmbassy();
        for (int sock = 0; sock < 14; sock++) {
            Expect.is(sock, full.sockCount());
            Expect.is(sock, full.addSock('w', 1 + sock % 9));
        }
        Expect.is(14, full.sockCount());
        String all = "nr1 ".repeat(14);
        Expect.rejects(SockEmbassy.SOCK_LIMIT, 14, all, x -> x.addSock('g', 2));
        Expect.fails(IllegalArgumentException.class, all, x -> x.addSock('y', 2));
    }

    private static void coloursAndSizes() {
        SockEmbassy office = Make.office("nr1 ng9 nb5 nw4");
        Expect.promise(4);
        String colours = "rgbw";
        int[] sizes = {1, 9, 5, 4};
        for (int sock = 0; sock < 4; sock++) {
            Expect.is(colours.charAt(sock), office.colourOf(sock));
        }
        Expect.noSock(SockEmbassy::colourOf);
        Expect.promise(5);
        for (int sock = 0; sock < 4; sock++) {
            Expect.is(sizes[sock], office.sizeOf(sock));
        }
        Expect.noSock(SockEmbassy::sizeOf);
    }

    private static void states() {
        SockEmbassy office = Make.office(Make.STATES);
        boolean[][] due = {{true, false, false, false}, {false, true, false, false}, {false, false, true, false},
            {false, false, false, true}, {false, false, false, true}, {false, false, false, true}};
        for (int sock = 0; sock < due.length; sock++) {
            Expect.promise(6);
            Expect.is(due[sock][0], office.isAway(sock));
            Expect.promise(7);
            Expect.is(due[sock][1], office.isPending(sock));
            Expect.promise(8);
            Expect.is(due[sock][2], office.isRefused(sock));
            Expect.promise(9);
            Expect.is(due[sock][3], office.isResident(sock));
        }
        Expect.promise(6);
        Expect.noSock(SockEmbassy::isAway);
        Expect.promise(7);
        Expect.noSock(SockEmbassy::isPending);
        Expect.promise(8);
        Expect.noSock(SockEmbassy::isRefused);
        Expect.promise(9);
        Expect.noSock(SockEmbassy::isResident);
    }

    private static void drawers() {
        Expect.promise(10);
        SockEmbassy office = Make.office(Make.STATES);
        int[] due = {2, 1, 3, 3, 3};
        for (int sock = 1; sock <= 5; sock++) {
            Expect.is(due[sock - 1], office.drawerOf(sock));
        }
        Expect.fails(NoSuchElementException.class, Make.STATES, x -> x.drawerOf(0));
        Expect.fails(NoSuchElementException.class, "nr1 a0>2 w0", x -> x.drawerOf(0));
        Expect.fails(NoSuchElementException.class, "nr1 a0>2 d2 l0", x -> x.drawerOf(0));
        Expect.noSock(SockEmbassy::drawerOf);
    }

    private static void levels() {
        Expect.promise(11);
        SockEmbassy office = Make.office(Make.STATES);
        Expect.is(1, office.levelOf(1));
        Expect.is(1, office.levelOf(2));
        office.appeal(2);
        Expect.is(2, office.levelOf(2));
        office.decide(1);
        Expect.is(2, office.levelOf(2));
        office.appeal(2);
        Expect.is(3, office.levelOf(2));
        Expect.fails(NoSuchElementException.class, Make.STATES, x -> x.levelOf(0));
        Expect.fails(NoSuchElementException.class, Make.STATES, x -> x.levelOf(3));
        Expect.noSock(SockEmbassy::levelOf);
    }

    private static void visas() {
        Expect.promise(12);
        SockEmbassy office = Make.office(Make.STATES);
        Expect.is(10, office.visaDay(5));
        Make.run(office, "y4 a0>4 d4 r5+2");
        Expect.is(14, office.visaDay(0));
        Expect.is(12, office.visaDay(5));
        for (int sock = 0; sock < 3; sock++) {
            int other = sock;
            Expect.fails(NoSuchElementException.class, Make.STATES, x -> x.visaDay(other));
        }
        Expect.noSock(SockEmbassy::visaDay);
    }

    private static void partners() {
        Expect.promise(13);
        SockEmbassy office = Make.office(Make.STATES);
        Expect.is(4, office.partnerOf(3));
        Expect.is(3, office.partnerOf(4));
        for (int sock : new int[] {0, 1, 2, 5}) {
            Expect.fails(NoSuchElementException.class, Make.STATES, x -> x.partnerOf(sock));
        }
        Expect.fails(NoSuchElementException.class, Make.STATES + " k4", x -> x.partnerOf(3));
        Expect.noSock(SockEmbassy::partnerOf);
    }

    private static void matching() {
        Expect.promise(14);
        SockEmbassy office = Make.office("nr5 nr5 ng5 nw5 nw5 nr6 nw6 nb5");
        String[] due = {"01011000", "10011000", "00011000", "11101001", "11110001", "00000010", "00000100", "00011000"};
        for (int first = 0; first < 8; first++) {
            for (int second = 0; second < 8; second++) {
                Expect.is(due[first].charAt(second) == '1', office.matches(first, second));
            }
        }
        Expect.noSock((x, sock) -> x.matches(sock, 0));
        Expect.noSock((x, sock) -> x.matches(0, sock));
    }
}
