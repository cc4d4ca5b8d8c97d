/** Promises 52 and 53: the text of a sock. */
final class OutputTests {
    private OutputTests() {
    }

    static void run() {
        texts();
        noTexts();
        characters();
    }

    private static void texts() {
        Expect.promise(52);
        String words = Make.STATES + " p2 d1 p2 ng7 ng7 ng7 ng7 ng7 ng7 a10>4 a11>4 d4 y20";
        writes("0:r1-", Make.office(words), 0);
        writes("1:g2?2/1", Make.office(words), 1);
        writes("2:b3?1/3", Make.office(words), 2);
        writes("2:b3x1/3", Make.office(words + " d1"), 2);
        writes("2:b3x1/1", Make.office(Make.STATES), 2);
        writes("3:w4@3<10+4", Make.office(words), 3);
        writes("4:g4@3<10+3", Make.office(words), 4);
        writes("4:g4@3<10", Make.office(words + " k3"), 4);
        writes("5:r9@3<19", Make.office(Make.STATES + " r5+9"), 5);
        writes("10:g7-", Make.office(words), 10);
        writes("11:g7@4<130", Make.office(words + " y20 y20 y20 y20 y20 a11>4 d4"), 11);
        writes("10:g7@4<10+11", Make.office(words.replace(" y20", " j10&11")), 10);
        writes("0:w9?2/1", Make.office("nw9 a0>2"), 0);
    }

    private static void writes(String due, SockEmbassy office, int sock) {
        Expect.is(due.length(), office.writeSock(sock));
        StringBuilder text = new StringBuilder();
        for (int i = 0; i < due.length(); i++) {
            text.append(office.outputAt(i));
        }
        Expect.is(due, text.toString());
        Expect.throwing(IndexOutOfBoundsException.class, office, x -> x.outputAt(due.length()));
    }

    private static void noTexts() {
        Expect.noSock((x, sock) -> x.writeSock(sock));
        // The earlier output stays.
        SockEmbassy office = Make.office(Make.STATES);
        office.writeSock(1);
        Expect.throwing(IndexOutOfBoundsException.class, office, x -> x.writeSock(6));
        Expect.is('1', office.outputAt(0));
        Expect.is('?', office.outputAt(4));
    }

    private static void characters() {
        Expect.promise(53);
        for (int index : new int[] {Integer.MIN_VALUE, -1, 0, 1, Integer.MAX_VALUE}) {
            Expect.fails(IndexOutOfBoundsException.class, Make.STATES, x -> x.outputAt(index));
        }
        SockEmbassy office = Make.office(Make.STATES);
        // A shorter text replaces a longer one whole, and a change of the sock does not rewrite it.
        office.writeSock(3);
        writes("0:r1-", office, 0);
        office.apply(0, 1);
        Expect.is('-', office.outputAt(4));
        for (int index : new int[] {Integer.MIN_VALUE, -1, 5, 6, 10, Integer.MAX_VALUE}) {
            Expect.throwing(IndexOutOfBoundsException.class, office, x -> x.outputAt(index));
        }
    }
}
