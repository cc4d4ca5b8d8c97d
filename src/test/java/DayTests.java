/** Promises 41 to 47: days and what is counted. */
final class DayTests {
    private static final int[] NO_DAYS = {Integer.MIN_VALUE, -20, -1, 0, 21, 22, Integer.MAX_VALUE};
    // Visas to day 10, to day 14, and two to day 10 that are paired.
    private static final String VISAS = "nr1 nr2 nr3 nr3 a0>0 a1>1 a2>1 a3>1 d0 d1 r1+4 j2&3";
    // All 14 socks are residents, of three drawers.
    private static final String HOUSED = Expect.FOURTEEN + "q0=5 q1=5 q2=5 a0>0 a1>0 a2>0 a3>0 a4>0 a5>1 a6>1 a7>1 a8>1"
            + " a9>1 a10>2 a11>2 a12>2 a13>2 d0 d1 d2";

    private DayTests() {
    }

    static void run() {
        passing();
        expelling();
        today();
        forecast();
        admitted();
        refused();
        expelled();
        balance();
    }

    private static void passing() {
        Expect.promise(41);
        Expect.sentence("Lets days pass.");
        Expect.answers(1, "y1", SockEmbassy::day);
        Expect.answers(false, Make.STATES + " y11", x -> x.isResident(5));
        Expect.answers(true, Make.STATES + " y11", x -> x.isPending(1));
        Expect.answers(true, Make.STATES + " y11", x -> x.isRefused(2));
        Expect.sentence("- `days`: the number of days, 1 to 20");
        for (int days = 1; days <= 20; days++) {
            int some = days;
            Expect.answers(0, "", x -> x.passDays(some));
            Expect.answers(days, "y" + days, SockEmbassy::day);
        }
        Expect.sentence("Throws `IllegalArgumentException` if days is out of range");
        for (int days : NO_DAYS) {
            Expect.fails(IllegalArgumentException.class, "", x -> x.passDays(days));
            Expect.fails(IllegalArgumentException.class, VISAS + " y10", x -> x.passDays(days));
        }
    }

    private static void expelling() {
        Expect.promise(41);
        Expect.sentence("Returns the number of residents that are expelled.");
        Expect.answers(0, "", x -> x.passDays(20));
        Expect.answers(0, VISAS, x -> x.passDays(10));
        Expect.answers(1, VISAS, x -> x.passDays(11));
        Expect.answers(1, VISAS + " y10", x -> x.passDays(1));
        Expect.answers(0, VISAS + " y11", x -> x.passDays(3));
        Expect.answers(1, VISAS + " y11", x -> x.passDays(4));
        // Visas of several days end within one call.
        Expect.answers(2, VISAS, x -> x.passDays(20));
        Expect.answers(0, HOUSED, x -> x.passDays(10));
        Expect.answers(14, HOUSED, x -> x.passDays(11));
    }

    private static void today() {
        Expect.promise(42);
        Expect.sentence("Returns the present day.", "Returns the number of days that have passed so far.");
        Expect.answers(0, "", SockEmbassy::day);
        Expect.answers(1, "y1", SockEmbassy::day);
        Expect.answers(21, "y1 y20", SockEmbassy::day);
        Expect.answers(1, "y1 y20 U", SockEmbassy::day);
        Expect.answers(1, "y1 S y20 R", SockEmbassy::day);
        Expect.answers(1, "y1 !y0 !y21", SockEmbassy::day);
        Expect.answers(1, Make.STATES + " y1 d2 l5", SockEmbassy::day);
    }

    private static void forecast() {
        Expect.promise(43);
        Expect.sentence("Returns how many residents would be expelled if some days passed now.",
                "Returns the number of residents.");
        Expect.answers(0, "", x -> x.wouldExpel(20));
        Expect.answers(0, VISAS, x -> x.wouldExpel(10));
        Expect.answers(1, VISAS, x -> x.wouldExpel(11));
        Expect.answers(1, VISAS, x -> x.wouldExpel(14));
        Expect.answers(2, VISAS, x -> x.wouldExpel(15));
        Expect.answers(2, VISAS, x -> x.wouldExpel(20));
        Expect.answers(4, VISAS + " k2", x -> x.wouldExpel(20));
        Expect.answers(2, VISAS + " y20 k2", x -> x.wouldExpel(1));
        Expect.answers(0, VISAS + " y20", x -> x.wouldExpel(1));
        Expect.answers(1, VISAS + " y14", x -> x.wouldExpel(1));
        Expect.answers(0, HOUSED, x -> x.wouldExpel(10));
        Expect.answers(14, HOUSED, x -> x.wouldExpel(11));
        Expect.onlyTells(VISAS, x -> x.wouldExpel(20));
        Expect.sentence("- `days`: the number of days, 1 to 20");
        for (int days = 1; days <= 20; days++) {
            int some = days;
            Expect.is(Make.office(VISAS).passDays(days), Make.office(VISAS).wouldExpel(days));
            Expect.answers(0, "", x -> x.wouldExpel(some));
        }
        Expect.sentence("Throws `IllegalArgumentException` if days is out of range");
        for (int days : NO_DAYS) {
            Expect.fails(IllegalArgumentException.class, "", x -> x.wouldExpel(days));
            Expect.fails(IllegalArgumentException.class, VISAS, x -> x.wouldExpel(days));
        }
    }

    private static void admitted() {
        Expect.promise(44);
        Expect.sentence("Returns the number of socks that have become residents by decisions so far.",
                "Returns the number of times.");
        Expect.answers(0, "", SockEmbassy::admittedCount);
        Expect.answers(3, Make.STATES, SockEmbassy::admittedCount);
        Expect.answers(14, HOUSED, SockEmbassy::admittedCount);
        // Each time counts; moves and the end of a residence do not.
        Expect.answers(3, Make.STATES + " t30o m5>0 l5", SockEmbassy::admittedCount);
        Expect.answers(4, Make.STATES + " l5 a5>3 d3", SockEmbassy::admittedCount);
        Expect.answers(4, Make.STATES + " y11 a5>3 d3", SockEmbassy::admittedCount);
        Expect.answers(3, Make.STATES + " d2 U", SockEmbassy::admittedCount);
        Expect.answers(4, Make.STATES + " q1=1 p2 d1", SockEmbassy::admittedCount);
        Expect.onlyTells(Make.STATES, x -> x.wouldAdmit(2));
    }

    private static void refused() {
        Expect.promise(45);
        Expect.sentence("Returns the number of applications that have been refused so far.",
                "Returns the number of times.");
        Expect.answers(0, "", SockEmbassy::refusedCount);
        Expect.answers(1, Make.STATES, SockEmbassy::refusedCount);
        Expect.answers(1, Make.STATES + " p2", SockEmbassy::refusedCount);
        Expect.answers(2, Make.STATES + " p2 d1", SockEmbassy::refusedCount);
        Expect.answers(3, Make.STATES + " p2 d1 p2 d1", SockEmbassy::refusedCount);
        Expect.answers(1, Make.STATES + " w2 w1 d1 d2", SockEmbassy::refusedCount);
        Expect.answers(1, Make.STATES + " d1 d1", SockEmbassy::refusedCount);
        Expect.answers(1, Make.STATES + " p2 d1 U", SockEmbassy::refusedCount);
        Expect.answers(1, Make.STATES + " !a3>0 !l3", SockEmbassy::refusedCount);
    }

    private static void expelled() {
        Expect.promise(46);
        Expect.sentence("Returns the number of residents that have been expelled so far.",
                "Returns the number of times.");
        Expect.answers(0, "", SockEmbassy::expelledCount);
        Expect.answers(0, Make.STATES + " y10", SockEmbassy::expelledCount);
        Expect.answers(1, Make.STATES + " y11", SockEmbassy::expelledCount);
        Expect.answers(1, Make.STATES + " y20", SockEmbassy::expelledCount);
        Expect.answers(3, Make.STATES + " y20 k3 y1", SockEmbassy::expelledCount);
        Expect.answers(2, Make.STATES + " y11 a5>3 d3 y11", SockEmbassy::expelledCount);
        Expect.answers(0, Make.STATES + " l5 w1 y20", SockEmbassy::expelledCount);
        Expect.answers(0, Make.STATES + " y11 U", SockEmbassy::expelledCount);
        Expect.answers(14, HOUSED + " y11", SockEmbassy::expelledCount);
    }

    private static void balance() {
        Expect.promise(47);
        Expect.sentence("Returns the number of admissions minus the number of expulsions so far.",
                "Returns the difference.");
        Expect.answers(0, "", SockEmbassy::admissionBalance);
        Expect.answers(3, Make.STATES, SockEmbassy::admissionBalance);
        Expect.answers(2, Make.STATES + " y11", SockEmbassy::admissionBalance);
        Expect.answers(0, Make.STATES + " y11 k3 y1", SockEmbassy::admissionBalance);
        Expect.answers(3, Make.STATES + " l5", SockEmbassy::admissionBalance);
        Expect.answers(3, Make.STATES + " y11 U", SockEmbassy::admissionBalance);
        Expect.answers(0, HOUSED + " y11", SockEmbassy::admissionBalance);
    }
}
