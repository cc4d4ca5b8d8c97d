/** Promises 25 to 29: pairs. */
final class PairTests {
    // Residents of drawer 1: red, red, green, white, white of size 5 and a red one of size 6; 6 lives in drawer 2.
    private static final String HOME = "nr5 nr5 ng5 nw5 nw5 nr6 nr5 q1=9 a0>1 a1>1 a2>1 a3>1 a4>1 a5>1 a6>2 d1 d2";

    private PairTests() {
    }

    static void run() {
        pairing();
        rejectedPairs();
        separating();
        counting();
        possible(28, SockEmbassy::possiblePairs);
        possible(29, SockEmbassy::possiblePairsByColours);
        agreeing();
    }

    private static void pairing() {
        Expect.promise(25);
        SockEmbassy office = Make.office(HOME);
        Expect.is(1, office.pair(3, 0));
        Expect.is(0, office.partnerOf(3));
        Expect.is(3, office.partnerOf(0));
        Expect.is(2, office.pair(2, 4));
        Expect.is(1, Make.office("nr1 nr1 nr1 a0>0 a1>4 a2>4 d0 d4").pair(1, 2));
        Expect.noSock((x, sock) -> x.pair(sock, 5));
        Expect.noSock((x, sock) -> x.pair(5, sock));
        for (int sock : new int[] {0, 3, 5}) {
            Expect.fails(IllegalArgumentException.class, Make.STATES, x -> x.pair(sock, sock));
        }
    }

    private static void rejectedPairs() {
        for (int sock : new int[] {0, 1, 2}) {
            Expect.rejects(SockEmbassy.NOT_RESIDENT, sock, Make.STATES, x -> x.pair(sock, 5));
            Expect.rejects(SockEmbassy.NOT_RESIDENT, sock, Make.STATES, x -> x.pair(3, sock));
        }
        Expect.rejects(SockEmbassy.NOT_RESIDENT, 1, Make.STATES, x -> x.pair(1, 2));
        Expect.rejects(SockEmbassy.OTHER_DRAWER, 2, HOME, x -> x.pair(0, 6));
        Expect.rejects(SockEmbassy.OTHER_DRAWER, 1, HOME, x -> x.pair(6, 0));
        Expect.rejects(SockEmbassy.OTHER_DRAWER, 2, HOME + " j0&1", x -> x.pair(0, 6));
        Expect.rejects(SockEmbassy.PAIRED, 1, HOME + " j0&1", x -> x.pair(0, 3));
        Expect.rejects(SockEmbassy.PAIRED, 0, HOME + " j0&1", x -> x.pair(3, 1));
        Expect.rejects(SockEmbassy.PAIRED, 1, HOME + " j0&1 j3&4", x -> x.pair(0, 3));
        Expect.rejects(SockEmbassy.PAIRED, 1, HOME + " j0&1", x -> x.pair(0, 5));
        Expect.rejects(SockEmbassy.PAIRED, 4, HOME + " j0&1 j3&4", x -> x.pair(3, 2));
        Expect.rejects(SockEmbassy.PAIRED, 4, HOME + " j0&1 j3&4", x -> x.pair(3, 1));
        Expect.rejects(SockEmbassy.PAIRED, 1, HOME + " j0&1", x -> x.pair(0, 1));
        Expect.rejects(SockEmbassy.NO_MATCH, 6, HOME, x -> x.pair(0, 5));
        Expect.rejects(SockEmbassy.NO_MATCH, 5, HOME, x -> x.pair(5, 0));
        Expect.rejects(SockEmbassy.NO_MATCH, 5, HOME, x -> x.pair(0, 2));
    }

    private static void separating() {
        Expect.promise(26);
        SockEmbassy office = Make.office(HOME + " j0&1 j2&3");
        Expect.is(1, office.separate(0));
        Expect.is(1, office.pairCount(1));
        Expect.is(2, office.separate(3));
        Expect.is(0, office.pairCount(1));
        Expect.is(true, office.isResident(3));
        for (int sock : new int[] {0, 1, 2, 5}) {
            Expect.rejects(SockEmbassy.NOT_PAIRED, sock, Make.STATES, x -> x.separate(sock));
        }
        Expect.rejects(SockEmbassy.NOT_PAIRED, 3, Make.STATES + " k4", x -> x.separate(3));
        Expect.noSock((x, sock) -> x.separate(sock));
        Expect.is(1, Make.office(HOME + " j0&1 k1").pair(1, 3));
    }

    private static void counting() {
        Expect.promise(27);
        SockEmbassy office = Make.office(HOME + " j0&1 j3&4");
        int[] due = {0, 2, 0, 0, 0};
        for (int drawer = 0; drawer < 5; drawer++) {
            Expect.is(due[drawer], office.pairCount(drawer));
        }
        Expect.is(1, Make.office(Make.STATES).pairCount(3));
        Expect.noDrawer((x, drawer) -> x.pairCount(drawer));
    }

    private static void possible(int promise, Expect.IndexCall pairs) {
        Expect.promise(promise);
        Expect.is(2, pairs.on(Make.office(HOME), 1));
        Expect.is(0, pairs.on(Make.office(HOME), 2));
        Expect.is(0, pairs.on(Make.office(HOME), 0));
        Expect.is(1, pairs.on(Make.office(HOME + " j0&1"), 1));
        Expect.is(1, pairs.on(Make.office(HOME + " j0&3"), 1));
        Expect.is(0, pairs.on(Make.office(HOME + " j0&1 j2&3"), 1));
        Expect.is(0, pairs.on(Make.office("nr5 nr5 a0>1 a1>1"), 1));
        // Trying greedily by index would waste a white sock on a colour that has a pair without it.
        Expect.is(2, pairs.on(housed("w5", "r5", "r5", "g5"), 1));
        Expect.is(2, pairs.on(housed("r5", "w5", "g5", "r5"), 1));
        Expect.is(4, pairs.on(housed("r1", "r1", "r1", "r1", "r1", "r1", "r1", "r1", "r1"), 1));
        Expect.is(3, pairs.on(housed("r1", "r1", "r1", "g1", "g1", "g1", "b1", "b1", "b1"), 1));
        Expect.is(4, pairs.on(housed("r1", "r1", "g1", "g1", "b1", "b1", "b1", "w1"), 1));
        Expect.is(2, pairs.on(housed("w9", "w9", "w9", "w9", "w1"), 1));
        Expect.is(2, pairs.on(housed("w2", "w2", "w2", "b2"), 1));
        Expect.is(1, pairs.on(housed("r9", "w9", "r8", "g8", "b7", "w6"), 1));
        Expect.is(0, pairs.on(housed("r5", "g5", "b5"), 1));
        Expect.is(1, pairs.on(housed("r5", "g5", "b5", "w5"), 1));
        Expect.is(2, pairs.on(housed("r5", "g5", "b5", "w5", "w5"), 1));
        Expect.is(3, pairs.on(housed("r5", "g5", "b5", "w5", "w5", "w5"), 1));
        Expect.noDrawer(pairs);
    }

    /** Up to nine socks as residents of drawer 1. */
    private static SockEmbassy housed(String... socks) {
        SockEmbassy office = Make.office("q1=9");
        for (int sock = 0; sock < socks.length; sock++) {
            office.addSock(socks[sock].charAt(0), socks[sock].charAt(1) - '0');
            office.apply(sock, 1);
        }
        office.decide(1);
        return office;
    }

    /** Every drawer of up to seven socks of one size: each number of each colour. */
    private static void agreeing() {
        Expect.promise(29);
        for (int code = 0; code < 256; code++) {
            int[] numbers = {code & 3, code >> 2 & 3, code >> 4 & 3, code >> 6};
            String socks = "";
            for (int colour = 0; colour < 4; colour++) {
                socks += ("rgbw".charAt(colour) + "3 ").repeat(numbers[colour]);
            }
            if (!socks.isEmpty() && socks.length() <= 27) {
                SockEmbassy office = housed(socks.trim().split(" "));
                Expect.is(mostPairs(numbers), office.possiblePairs(1));
                Expect.is(mostPairs(numbers), office.possiblePairsByColours(1));
                Expect.is(true, office.isConsistent());
            }
        }
    }

    /** The greatest number of pairs, by taking away every pair that can be made. */
    private static int mostPairs(int[] numbers) {
        int most = 0;
        for (int first = 0; first < 4; first++) {
            for (int second : new int[] {first, 3}) {
                int[] rest = numbers.clone();
                rest[first]--;
                rest[second]--;
                if (rest[first] >= 0 && rest[second] >= 0) {
                    most = Math.max(most, 1 + mostPairs(rest));
                }
            }
        }
        return most;
    }
}
