import java.util.NoSuchElementException;

/** Promises 48 to 53: the order of the drawers, means and shares, the check of the data, and the text of a sock. */
final class TotalTests {
    // Two residents in each of 0, 1 and 4; one in 2; none in 3.
    private static final String SEVEN = "nr1 nr2 nr1 nr1 nr1 nr1 nr1 a0>0 a1>0 a2>1 a3>1 a4>4 a5>4 a6>2 d0 d1 d4 d2";

    private TotalTests() {
    }

    static void run() {
        ranking();
        means();
        shares();
        consistency();
        texts();
        textsInPlace();
        characters();
    }

    private static void ranking() {
        Expect.promise(48);
        Expect.sentence("Returns a drawer in the order of residents, the most residents first.",
                "Returns the index of the drawer.");
        ranks("32014", "nr1 nr1 nr1 a0>3 a1>3 a2>2 d3 d2");
        ranks("30124", Make.STATES);
        ranks("40123", "nr1 a0>4 d4");
        Expect.sentence("Of drawers with the same number of residents, the one with more pairs comes first, then");
        ranks("01234", "");
        ranks("01423", SEVEN);
        ranks("40123", SEVEN + " j4&5");
        ranks("14023", SEVEN + " j4&5 j2&3");
        ranks("41023", SEVEN + " j4&5 q4=4 l6 a6>4 d4 j2&3");
        Expect.sentence("- `position`: the position, from 0");
        Expect.answers(0, "", x -> x.drawerByResidents(0));
        Expect.answers(4, "", x -> x.drawerByResidents(4));
        Expect.sentence("Throws `NoSuchElementException` if there is no such position");
        for (int position : new int[] {Integer.MIN_VALUE, -1, 5, 6, Integer.MAX_VALUE}) {
            Expect.fails(NoSuchElementException.class, Make.STATES, x -> x.drawerByResidents(position));
            Expect.fails(NoSuchElementException.class, "", x -> x.drawerByResidents(position));
        }
    }

    private static void ranks(String due, String setup) {
        SockEmbassy office = Make.office(setup);
        StringBuilder got = new StringBuilder();
        for (int position = 0; position < 5; position++) {
            got.append(office.drawerByResidents(position));
        }
        Expect.is(due, got.toString());
    }

    private static void means() {
        Expect.promise(49);
        Expect.sentence("Returns the mean size of all socks: the sum divided by their number, both converted to",
                "Returns the mean size.");
        Expect.answers(4.0, "nr4", SockEmbassy::meanSize);
        Expect.answers(1.0, Expect.FOURTEEN, SockEmbassy::meanSize);
        Expect.answers(9.0, "nr9 ".repeat(14), SockEmbassy::meanSize);
        Expect.answers(4.5, "nr4 nr5", SockEmbassy::meanSize);
        Expect.answers(16.0 / 3.0, "nr4 ng9 nw3", SockEmbassy::meanSize);
        Expect.answers(22.0 / 6.0, "nr1 nr2 nr3 nr4 nr9 nr3 a0>1 a2>1 d1", SockEmbassy::meanSize);
        Expect.sentence("Throws `ArithmeticException` if there are no socks");
        Expect.fails(ArithmeticException.class, "", SockEmbassy::meanSize);
        Expect.fails(ArithmeticException.class, "nr1 U", SockEmbassy::meanSize);
    }

    private static void shares() {
        Expect.promise(50);
        Expect.sentence("Returns the share of residents among all socks, both numbers converted to float.",
                "Returns the share.");
        Expect.answers(0.0f, "nr4", SockEmbassy::residentShare);
        Expect.answers(0.0f, "nr4 a0>1", SockEmbassy::residentShare);
        Expect.answers(1.0f, "nr4 a0>4 d4", SockEmbassy::residentShare);
        Expect.answers(3.0f / 6.0f, Make.STATES, SockEmbassy::residentShare);
        Expect.answers(2.0f / 3.0f, "nr4 nr4 nr4 a0>1 a2>0 d0 d1", SockEmbassy::residentShare);
        Expect.answers(1.0f / 14.0f, Expect.FOURTEEN + "a13>4 d4", SockEmbassy::residentShare);
        Expect.sentence("Throws `ArithmeticException` if there are no socks");
        Expect.fails(ArithmeticException.class, "", SockEmbassy::residentShare);
        Expect.fails(ArithmeticException.class, "nr1 U", SockEmbassy::residentShare);
    }

    private static void consistency() {
        Expect.promise(51);
        Expect.sentence("Checks the data: both ways to compute the possible pairs agree for all drawers, and the two",
                "Returns whether all this is true.");
        Expect.answers(true, "", SockEmbassy::isConsistent);
        Expect.answers(true, Make.STATES, SockEmbassy::isConsistent);
        Expect.answers(true, Make.STATES + " y20 k3 y1", SockEmbassy::isConsistent);
        Expect.answers(true, Make.STATES + " k4 l3 t30s m4>0", SockEmbassy::isConsistent);
        Expect.answers(true, SEVEN + " j2&3 j4&5 U U", SockEmbassy::isConsistent);
        Expect.onlyTells(Make.STATES, SockEmbassy::isConsistent);
    }

    private static void texts() {
        Expect.promise(52);
        Expect.sentence("Writes a sock to the output, in place of the earlier output: its index, \":\", its colour and",
                "Returns the length of the output.");
        String words = Make.STATES + " p2 d1 p2 ng7 ng7 ng7 ng7 ng7 ng7 a10>4 a11>4 d4 y20";
        writes("0:r1-", words, 0);
        writes("1:g2?2/1", words, 1);
        writes("2:b3?1/3", words, 2);
        writes("2:b3x1/3", words + " d1", 2);
        writes("2:b3x1/1", Make.STATES, 2);
        writes("3:w4@3<10+4", words, 3);
        writes("4:g4@3<10+3", words, 4);
        writes("4:g4@3<10", words + " k3", 4);
        writes("5:r9@3<19", Make.STATES + " r5+9", 5);
        writes("5:r9@0<3", Make.STATES + " t30s m5>0", 5);
        writes("10:g7-", words, 10);
        writes("11:g7@4<130", words + " y20 y20 y20 y20 y20 a11>4 d4", 11);
        writes("10:g7@4<10+11", words.replace(" y20", " j10&11"), 10);
        writes("13:r1@0<1010+12", Expect.FOURTEEN + "y20 ".repeat(50) + "a12>0 a13>0 d0 j12&13", 13);
        Expect.sentence("Examples are \"3:r5@1<12+4\" and \"0:w9?2/1\".");
        writes("3:r5@1<12+4", "nr1 nr2 nr3 nr5 nr5 a3>1 a4>1 d1 r3+2 j3&4", 3);
        writes("0:w9?2/1", "nw9 a0>2", 0);
    }

    private static void writes(String due, String setup, int sock) {
        writes(due, Make.office(setup), sock);
    }

    private static void writes(String due, SockEmbassy office, int sock) {
        Expect.is(due.length(), office.writeSock(sock));
        StringBuilder text = new StringBuilder();
        for (int i = 0; i < due.length(); i++) {
            text.append(office.outputAt(i));
        }
        Expect.is(due, text.toString());
        Expect.throwing(IndexOutOfBoundsException.class, office, x -> x.outputAt(due.length()));
        Expect.throwing(IndexOutOfBoundsException.class, office, x -> x.outputAt(-1));
    }

    private static void textsInPlace() {
        Expect.promise(52);
        Expect.sentence("Writes a sock to the output, in place of the earlier output: its index, \":\", its colour");
        // A shorter text replaces a longer one whole, and a longer one a shorter one.
        SockEmbassy office = Make.office(Make.STATES + " o3");
        writes("0:r1-", office, 0);
        writes("3:w4@3<10+4", office, 3);
        // A change of the sock, undo and the snapshot do not rewrite it.
        Make.run(office, "S k3 U R");
        Expect.is('+', office.outputAt(9));
        Expect.socks(SockEmbassy::writeSock);
    }

    private static void characters() {
        Expect.promise(53);
        Expect.sentence("The output is empty at first.");
        for (int index : new int[] {Integer.MIN_VALUE, -1, 0, 1, Integer.MAX_VALUE}) {
            Expect.failsOnce(IndexOutOfBoundsException.class, "", x -> x.outputAt(index));
            Expect.failsOnce(IndexOutOfBoundsException.class, Make.STATES, x -> x.outputAt(index));
        }
        Expect.sentence("Returns a character of the output.", "Returns the character.");
        String due = "1:g2?2/1";
        for (int i = 0; i < due.length(); i++) {
            int index = i;
            Expect.answers(due.charAt(i), Make.STATES + " o1", x -> x.outputAt(index));
        }
        Expect.sentence("- `index`: the index, from 0");
        Expect.answers('0', Make.STATES + " o0", x -> x.outputAt(0));
        Expect.answers('-', Make.STATES + " o0", x -> x.outputAt(4));
        Expect.sentence("Throws `IndexOutOfBoundsException` if there is no character at this index");
        for (int index : new int[] {Integer.MIN_VALUE, -1, 5, 6, 11, Integer.MAX_VALUE}) {
            Expect.fails(IndexOutOfBoundsException.class, Make.STATES + " o0", x -> x.outputAt(index));
            Expect.fails(IndexOutOfBoundsException.class, Make.STATES + " o3 o0", x -> x.outputAt(index));
        }
    }
}
