import java.util.NoSuchElementException;

/** Promises 41 to 51: days and totals. */
final class DayTests {
    private static final int[] NO_DAYS = {Integer.MIN_VALUE, -1, 0, 21, Integer.MAX_VALUE};

    private DayTests() {
    }

    static void run() {
        passing();
        expelling();
        forecast();
        totals();
        ranking();
        means();
        shares();
        consistency();
        fullHouse();
    }

    private static void passing() {
        SockEmbassy office = new SockEmbassy();
        Expect.promise(41);
        Expect.is(0, office.passDays(1));
        Expect.is(0, office.passDays(20));
        Expect.promise(42);
        Expect.is(21, office.day());
        for (int days : NO_DAYS) {
            Expect.promise(41);
            Expect.fails(IllegalArgumentException.class, Make.STATES, x -> x.passDays(days));
            Expect.promise(43);
            Expect.fails(IllegalArgumentException.class, Make.STATES, x -> x.wouldExpel(days));
        }
    }

    private static void expelling() {
        Expect.promise(41);
        SockEmbassy office = Make.office(Make.STATES);
        Expect.is(0, office.passDays(10));
        Expect.is(true, office.isResident(5));
        Expect.is(1, office.passDays(1));
        Expect.is(true, office.isAway(5));
        Expect.is(true, office.isResident(3));
        Expect.is(true, office.isPending(1));
        Expect.is(true, office.isRefused(2));
        Expect.is(0, office.passDays(20));
        // After a separation, both are expelled when the next day passes.
        office.separate(4);
        Expect.is(true, office.isResident(3));
        Expect.is(2, office.passDays(1));
        Expect.is(true, office.isAway(3));
        Expect.is(true, office.isAway(4));
        // Visas of several days end within one call.
        Expect.is(3, Make.office("nr1 nr2 nr3 a0>0 a1>1 a2>2 d0 d1 d2 r1+4 r2+9").passDays(20));
        Expect.is(2, Make.office("nr1 nr2 nr3 a0>0 a1>1 a2>2 d0 d1 d2 r1+4 r2+9").passDays(19));
    }

    private static void forecast() {
        Expect.promise(43);
        String visas = "nr1 nr2 nr3 nr3 a0>0 a1>1 a2>1 a3>1 d0 d1 r1+4 j2&3";
        SockEmbassy office = Make.office(visas);
        Expect.is(0, office.wouldExpel(10));
        Expect.is(1, office.wouldExpel(11));
        Expect.is(1, office.wouldExpel(14));
        Expect.is(2, office.wouldExpel(15));
        Expect.is(2, office.wouldExpel(20));
        Expect.is(0, office.day());
        Expect.is(4, Make.office(visas + " k2").wouldExpel(20));
        Expect.is(2, Make.office(visas + " y20 k2").wouldExpel(1));
        Expect.is(1, Make.office(visas + " y14").wouldExpel(1));
        Expect.is(0, new SockEmbassy().wouldExpel(1));
        for (int days = 1; days <= 20; days++) {
            Expect.is(office.wouldExpel(days), Make.office(visas).passDays(days));
        }
    }

    private static void totals() {
        SockEmbassy office = Make.office(Make.STATES + " p2 d1 y11 a5>3 q3=0 d3 q3=9 p5 d3");
        Expect.promise(44);
        Expect.is(4, office.admittedCount());
        Expect.is(0, new SockEmbassy().admittedCount());
        Expect.promise(45);
        Expect.is(3, office.refusedCount());
        Expect.is(0, new SockEmbassy().refusedCount());
        Expect.promise(46);
        Expect.is(1, office.expelledCount());
        Expect.is(0, new SockEmbassy().expelledCount());
        Expect.promise(47);
        Expect.is(3, office.admissionBalance());
        // Neither leaving nor moving nor withdrawing counts.
        Make.run(office, "t30o m5>0 l5 w1 k3 y20");
        Expect.is(1, office.admissionBalance());
        Expect.promise(46);
        Expect.is(3, office.expelledCount());
        Expect.promise(44);
        Expect.is(4, office.admittedCount());
    }

    private static void ranking() {
        Expect.promise(48);
        ranks(new SockEmbassy(), 0, 1, 2, 3, 4);
        ranks(Make.office(Make.STATES), 3, 0, 1, 2, 4);
        // Two residents in each of 0, 1 and 4, where 1 and 4 have a pair; one in 2; none in 3.
        String six = "nr1 nr2 nr1 nr1 nr1 nr1 nr1 a0>0 a1>0 a2>1 a3>1 a4>4 a5>4 a6>2 d0 d1 d4 d2";
        ranks(Make.office(six), 0, 1, 4, 2, 3);
        ranks(Make.office(six + " j4&5"), 4, 0, 1, 2, 3);
        ranks(Make.office(six + " j4&5 j2&3"), 1, 4, 0, 2, 3);
        for (int position : new int[] {Integer.MIN_VALUE, -1, 5, Integer.MAX_VALUE}) {
            Expect.fails(NoSuchElementException.class, Make.STATES, x -> x.drawerByResidents(position));
        }
    }

    private static void ranks(SockEmbassy office, int... due) {
        for (int position = 0; position < 5; position++) {
            Expect.is(due[position], office.drawerByResidents(position));
        }
    }

    private static void means() {
        Expect.promise(49);
        Expect.is(4.0, Make.office("nr4").meanSize());
        Expect.is(16.0 / 3.0, Make.office("nr4 ng9 nw3").meanSize());
        Expect.is(22.0 / 6.0, Make.office("nr1 nr2 nr3 nr4 nr9 nr3").meanSize());
        Expect.fails(ArithmeticException.class, "", SockEmbassy::meanSize);
        Expect.fails(ArithmeticException.class, "y1", SockEmbassy::meanSize);
    }

    private static void shares() {
        Expect.promise(50);
        Expect.is(0.0f, Make.office("nr4 a0>1").residentShare());
        Expect.is(3.0f / 6.0f, Make.office(Make.STATES).residentShare());
        Expect.is(2.0f / 3.0f, Make.office("nr4 nr4 nr4 a0>1 a2>0 d0 d1").residentShare());
        Expect.is(1.0f, Make.office("nr4 a0>4 d4").residentShare());
        Expect.fails(ArithmeticException.class, "", SockEmbassy::residentShare);
    }

    private static void consistency() {
        Expect.promise(51);
        Expect.is(true, new SockEmbassy().isConsistent());
        Expect.is(true, Make.office(Make.STATES).isConsistent());
        Expect.is(true, Make.office(Make.STATES + " y20 k3 y1").isConsistent());
        Expect.is(true, Make.office(Make.STATES + " k4 l3 t30s m4>0").isConsistent());
    }

    /** All 14 socks at once, more than one drawer can hold. */
    private static void fullHouse() {
        SockEmbassy office = Make.office("nw1 ".repeat(14) + "q2=9 q4=9");
        for (int sock = 0; sock < 14; sock++) {
            Expect.promise(15);
            Expect.is(sock + 1, office.apply(sock, 2));
        }
        Expect.promise(20);
        Expect.is(13, office.queueAt(2, 13));
        Expect.throwing(NoSuchElementException.class, office, x -> x.queueAt(2, 14));
        Expect.promise(19);
        Expect.is(9, office.wouldAdmit(2));
        Expect.promise(18);
        Expect.is(9, office.decide(2));
        Make.run(office, "w9 w10 w11 w12 w13 a9>4 a10>4 a11>4 a12>4 a13>4");
        Expect.is(5, office.decide(4));
        Expect.promise(38);
        Expect.is(8, office.residentAt(2, 8));
        Expect.is(13, office.residentAt(4, 4));
        Expect.throwing(NoSuchElementException.class, office, x -> x.residentAt(2, 9));
        Expect.promise(28);
        Expect.is(4, office.possiblePairs(2));
        Expect.is(2, office.possiblePairs(4));
        Expect.promise(29);
        Expect.is(4, office.possiblePairsByColours(2));
        Expect.promise(51);
        Expect.is(true, office.isConsistent());
        Expect.promise(50);
        Expect.is(1.0f, office.residentShare());
        Expect.promise(49);
        Expect.is(1.0, office.meanSize());
        Expect.promise(43);
        Expect.is(14, office.wouldExpel(11));
        Expect.promise(41);
        Expect.is(14, office.passDays(11));
    }
}
