/** Promises 25 to 29: pairs. */
final class PairTests {
    // Residents of drawer 1: red, red, green, white, white of size 5 and a red one of size 6; 6 lives in drawer 2.
    private static final String HOME = "nr5 nr5 ng5 nw5 nw5 nr6 nr5 q1=9 a0>1 a1>1 a2>1 a3>1 a4>1 a5>1 a6>2 d1 d2";

    private PairTests() {
    }

    static void run() {
        pairing();
        refusedPairs();
        rejectedPairs();
        separating();
        counting();
        trying();
        counted();
        agreeing();
    }

    private static void pairing() {
        Expect.promise(25);
        Expect.sentence("Makes two residents a pair.");
        SockEmbassy office = Make.office(HOME + " j3&0");
        Expect.is(0, office.partnerOf(3));
        Expect.is(3, office.partnerOf(0));
        Expect.answers(0, HOME + " j0&3", x -> x.partnerOf(3));
        Expect.sentence("Returns the number of pairs in their drawer after the call.");
        Expect.answers(1, HOME, x -> x.pair(3, 0));
        Expect.answers(2, HOME + " j3&0", x -> x.pair(2, 4));
        Expect.answers(1, HOME + " j3&0 k0", x -> x.pair(2, 4));
        Expect.answers(1, "nr1 nr1 nr1 nr1 a0>0 a3>0 a1>4 a2>4 d0 d4 j0&3", x -> x.pair(1, 2));
        Expect.answers(4, housed("r1 r1 r1 r1 r1 r1 r1 r1 r1") + " j0&8 j1&7 j2&6", x -> x.pair(5, 3));
    }

    private static void refusedPairs() {
        Expect.promise(25);
        Expect.sentence("Throws `IndexOutOfBoundsException` if there is no such sock, for either argument");
        Expect.everySock((x, sock) -> x.pair(sock, 0));
        Expect.everySock((x, sock) -> x.pair(0, sock));
        Expect.outside(Make.STATES, (x, sock) -> x.pair(sock, sock), -1, 6, 14);
        Expect.sentence("Throws `IllegalArgumentException` if both arguments are the same sock");
        for (int sock = 0; sock < 6; sock++) {
            int same = sock;
            Expect.fails(IllegalArgumentException.class, Make.STATES, x -> x.pair(same, same));
        }
        Expect.fails(IllegalArgumentException.class, Expect.FOURTEEN, x -> x.pair(13, 13));
    }

    private static void rejectedPairs() {
        Expect.promise(25);
        Expect.sentence("Throws `UnsupportedOperationException` if the call is rejected with the reason");
        for (int sock : new int[] {0, 1, 2}) {
            Expect.rejects(SockEmbassy.NOT_RESIDENT, sock, Make.STATES, x -> x.pair(sock, 5));
            Expect.rejects(SockEmbassy.NOT_RESIDENT, sock, Make.STATES, x -> x.pair(3, sock));
        }
        Expect.rejects(SockEmbassy.NOT_RESIDENT, 1, Make.STATES, x -> x.pair(1, 2));
        Expect.rejects(SockEmbassy.NOT_RESIDENT, 2, Make.STATES, x -> x.pair(2, 1));
        Expect.rejects(SockEmbassy.OTHER_DRAWER, 2, HOME, x -> x.pair(0, 6));
        Expect.rejects(SockEmbassy.OTHER_DRAWER, 1, HOME, x -> x.pair(6, 0));
        Expect.rejects(SockEmbassy.OTHER_DRAWER, 2, HOME + " j0&1", x -> x.pair(0, 6));
        Expect.rejects(SockEmbassy.OTHER_DRAWER, 1, HOME + " j0&1", x -> x.pair(6, 0));
        Expect.rejects(SockEmbassy.OTHER_DRAWER, 2, HOME, x -> x.pair(5, 6));
        Expect.rejects(SockEmbassy.PAIRED, 1, HOME + " j0&1", x -> x.pair(0, 3));
        Expect.rejects(SockEmbassy.PAIRED, 0, HOME + " j0&1", x -> x.pair(3, 1));
        Expect.rejects(SockEmbassy.PAIRED, 1, HOME + " j0&1 j3&4", x -> x.pair(0, 3));
        Expect.rejects(SockEmbassy.PAIRED, 4, HOME + " j0&1 j3&4", x -> x.pair(3, 0));
        Expect.rejects(SockEmbassy.PAIRED, 1, HOME + " j0&1", x -> x.pair(0, 5));
        Expect.rejects(SockEmbassy.PAIRED, 1, HOME + " j0&1", x -> x.pair(5, 0));
        Expect.rejects(SockEmbassy.PAIRED, 1, HOME + " j0&1", x -> x.pair(0, 1));
        Expect.rejects(SockEmbassy.NO_MATCH, 6, HOME, x -> x.pair(0, 5));
        Expect.rejects(SockEmbassy.NO_MATCH, 5, HOME, x -> x.pair(5, 0));
        Expect.rejects(SockEmbassy.NO_MATCH, 5, HOME, x -> x.pair(0, 2));
    }

    private static void separating() {
        Expect.promise(26);
        Expect.sentence("Separates a pair.");
        SockEmbassy office = Make.office(HOME + " j0&1 j2&3 k0");
        Expect.is(1, office.pairCount(1));
        Expect.is(3, office.partnerOf(2));
        Expect.is(true, office.isResident(0));
        Expect.is(true, office.isResident(1));
        Expect.answers(2, HOME + " j0&1 j2&3 k0", x -> x.pair(1, 4));
        Expect.answers(2, HOME + " j0&1 j2&3 k1", x -> x.pair(0, 4));
        Expect.sentence("Returns the index of the other sock.");
        Expect.answers(1, HOME + " j0&1 j2&3", x -> x.separate(0));
        Expect.answers(0, HOME + " j0&1 j2&3", x -> x.separate(1));
        Expect.answers(2, HOME + " j0&1 j2&3", x -> x.separate(3));
        Expect.answers(13, Expect.FOURTEEN + "a0>0 a13>0 d0 j0&13", x -> x.separate(0));
        Expect.socks((x, sock) -> x.separate(sock));
        Expect.sentence("Throws `UnsupportedOperationException` if the call is rejected with the reason NOT_PAIRED");
        for (int sock : new int[] {0, 1, 2, 5}) {
            Expect.rejects(SockEmbassy.NOT_PAIRED, sock, Make.STATES, x -> x.separate(sock));
        }
        Expect.rejects(SockEmbassy.NOT_PAIRED, 3, Make.STATES + " k4", x -> x.separate(3));
        Expect.rejects(SockEmbassy.NOT_PAIRED, 4, Make.STATES + " k4", x -> x.separate(4));
    }

    private static void counting() {
        Expect.promise(27);
        Expect.sentence("Returns the number of pairs in a drawer.", "Returns the number of pairs.");
        int[] due = {0, 2, 0, 0, 0};
        for (int drawer = 0; drawer < 5; drawer++) {
            int some = drawer;
            Expect.answers(due[drawer], HOME + " j0&1 j3&4", x -> x.pairCount(some));
            Expect.answers(0, "", x -> x.pairCount(some));
        }
        Expect.answers(0, HOME, x -> x.pairCount(1));
        Expect.answers(0, HOME + " j0&1 k1", x -> x.pairCount(1));
        Expect.answers(4, housed("r1 r1 r1 r1 r1 r1 r1 r1 r1") + " j0&8 j1&7 j2&6 j5&3", x -> x.pairCount(1));
        Expect.drawers(SockEmbassy::pairCount);
    }

    private static void trying() {
        Expect.promise(28);
        Expect.sentence("Returns how many pairs could be made of the residents of a drawer that are not paired, found");
        notPaired(SockEmbassy::possiblePairs);
        Expect.sentence("Returns the greatest number of pairs.");
        greatest(SockEmbassy::possiblePairs);
        Expect.onlyTells(HOME, x -> x.possiblePairs(1));
        Expect.drawers(SockEmbassy::possiblePairs);
    }

    private static void counted() {
        Expect.promise(29);
        Expect.sentence("Returns the same number in a second way: by counting colours for each size.");
        notPaired(SockEmbassy::possiblePairsByColours);
        greatest(SockEmbassy::possiblePairsByColours);
        Expect.onlyTells(HOME, x -> x.possiblePairsByColours(1));
        Expect.drawers(SockEmbassy::possiblePairsByColours);
    }

    private static void notPaired(Expect.IndexCall pairs) {
        Expect.answers(0, "", x -> pairs.on(x, 0));
        Expect.answers(2, HOME, x -> pairs.on(x, 1));
        Expect.answers(0, HOME, x -> pairs.on(x, 2));
        Expect.answers(0, HOME, x -> pairs.on(x, 0));
        Expect.answers(1, HOME + " j0&1", x -> pairs.on(x, 1));
        Expect.answers(1, HOME + " j0&3", x -> pairs.on(x, 1));
        Expect.answers(0, HOME + " j0&1 j2&3", x -> pairs.on(x, 1));
        Expect.answers(0, "nr5 nr5 a0>1 a1>1", x -> pairs.on(x, 1));
        Expect.answers(0, "nr5 nr5 q1=0 a0>1 a1>1 d1", x -> pairs.on(x, 1));
    }

    private static void greatest(Expect.IndexCall pairs) {
        // Trying greedily by index would waste a white sock on a colour that has a pair without it.
        possible(2, "w5 r5 r5 g5", pairs);
        possible(2, "r5 w5 g5 r5", pairs);
        possible(4, "r1 r1 r1 r1 r1 r1 r1 r1 r1", pairs);
        possible(4, "r9 r9 r9 r9 r9 r9 r9 r9", pairs);
        possible(3, "r1 r1 r1 g1 g1 g1 b1 b1 b1", pairs);
        possible(4, "r1 r1 g1 g1 b1 b1 b1 w1", pairs);
        possible(2, "w9 w9 w9 w9 w1", pairs);
        possible(2, "w2 w2 w2 b2", pairs);
        possible(1, "r9 w9 r8 g8 b7 w6", pairs);
        possible(0, "r1 r2 r3 r4 r5 r6 r7 r8 r9", pairs);
        possible(0, "r5 g5 b5", pairs);
        possible(1, "r5 g5 b5 w5", pairs);
        possible(2, "r5 g5 b5 w5 w5", pairs);
        possible(3, "r5 g5 b5 w5 w5 w5", pairs);
        possible(0, "w1", pairs);
    }

    private static void possible(int due, String socks, Expect.IndexCall pairs) {
        Expect.answers(due, housed(socks), x -> pairs.on(x, 1));
    }

    /** The words that make up to nine socks residents of drawer 1. */
    private static String housed(String socks) {
        StringBuilder words = new StringBuilder("q1=9");
        int sock = 0;
        for (String some : socks.split(" ")) {
            words.append(" n").append(some).append(" a").append(sock++).append(">1");
        }
        return words.append(" d1").toString();
    }

    /** Every drawer of up to nine socks of one size: each number of each colour, up to three. */
    private static void agreeing() {
        Expect.promise(29);
        Expect.sentence("Returns the same number.");
        for (int code = 1; code < 256; code++) {
            int[] numbers = {code & 3, code >> 2 & 3, code >> 4 & 3, code >> 6};
            StringBuilder socks = new StringBuilder();
            for (int colour = 0; colour < 4; colour++) {
                socks.append(("rgbw".charAt(colour) + "3 ").repeat(numbers[colour]));
            }
            if (socks.length() <= 27) {
                SockEmbassy office = Make.office(housed(socks.toString()));
                Expect.is(mostPairs(numbers), office.possiblePairs(1));
                Expect.is(mostPairs(numbers), office.possiblePairsByColours(1));
                Expect.is(true, office.isConsistent());
            }
        }
    }

    /** The greatest number of pairs, by taking away every pair that can be made. */
    private static int mostPairs(int[] numbers) {
        int most = 0;
        for (int first = 0; first < 4; first++) {
            for (int second : new int[] {first, 3}) {
                int[] rest = numbers.clone();
                rest[first]--;
                rest[second]--;
                if (rest[first] >= 0 && rest[second] >= 0) {
                    most = Math.max(most, 1 + mostPairs(rest));
                }
            }
        }
        return most;
    }
}
