/** Promises 22 to 24: visas, leaving and moving. */
final class ResidentTests {
    // Drawer 3 has three residents, of whom 3 and 4 are paired; drawer 0 has three white ones, and a quota of two.
    private static final String BOTH = Make.STATES + " nw1 nw2 nw3 a6>0 a7>0 a8>0 d0 q0=2";

    private ResidentTests() {
    }

    static void run() {
        renewing();
        refusedRenewals();
        leaving();
        moving();
        visasOfMoves();
        rejectedMoves();
    }

    private static void renewing() {
        Expect.promise(22);
        Expect.sentence("Renews the visa of a resident: its last day becomes later.");
        Expect.answers(11, Make.STATES + " r5+1", x -> x.visaDay(5));
        Expect.answers(10, Make.STATES + " r5+1", x -> x.visaDay(3));
        Expect.answers(1, Make.STATES + " r5+1 y11", x -> x.wouldExpel(1));
        Expect.answers(true, Make.STATES + " r5+1 y11", x -> x.isResident(5));
        Expect.sentence("- `days`: by how many days, 1 to 9");
        for (int days = 1; days <= 9; days++) {
            int some = days;
            Expect.answers(10 + days, Make.STATES, x -> x.renew(5, some));
        }
        Expect.sentence("Returns the last day after the call.");
        Expect.answers(20, Make.STATES + " r5+9", x -> x.renew(5, 1));
        Expect.answers(19, Make.STATES, x -> x.renew(3, 9));
        Expect.answers(35, Make.STATES + " y20 a0>4 d4", x -> x.renew(0, 5));
        // A visa that has ended while its sock was paired is renewed from its last day.
        Expect.answers(14, Make.STATES + " y20", x -> x.renew(3, 4));
        Expect.answers(14, Make.STATES + " y20 k3", x -> x.renew(3, 4));
    }

    private static void refusedRenewals() {
        Expect.promise(22);
        Expect.socks((x, sock) -> x.renew(sock, 1));
        Expect.outside(Make.STATES, (x, sock) -> x.renew(sock, 0), -1, 6);
        Expect.sentence("Throws `IllegalArgumentException` if days is out of range");
        for (int days : new int[] {Integer.MIN_VALUE, -1, 0, 10, 11, Integer.MAX_VALUE}) {
            Expect.fails(IllegalArgumentException.class, Make.STATES, x -> x.renew(5, days));
            Expect.fails(IllegalArgumentException.class, Make.STATES, x -> x.renew(0, days));
        }
        Expect.sentence("Throws `UnsupportedOperationException` if the call is rejected with the reason");
        for (int sock : new int[] {0, 1, 2}) {
            Expect.rejects(SockEmbassy.NOT_RESIDENT, sock, Make.STATES, x -> x.renew(sock, 1));
        }
        Expect.rejects(SockEmbassy.VISA_LIMIT, 20, Make.STATES + " r5+9 r5+1", x -> x.renew(5, 1));
        Expect.rejects(SockEmbassy.VISA_LIMIT, 19, Make.STATES + " r5+9", x -> x.renew(5, 2));
        Expect.rejects(SockEmbassy.VISA_LIMIT, 12, Make.STATES + " r3+2", x -> x.renew(3, 9));
        Expect.answers(20, Make.STATES + " r3+1", x -> x.renew(3, 9));
    }

    private static void leaving() {
        Expect.promise(23);
        Expect.sentence("Lets a resident leave its drawer.");
        Expect.answers(2, Make.STATES + " l5", x -> x.residents(3));
        Expect.answers(0, Make.STATES + " d2 l1", x -> x.residents(2));
        Expect.answers(0, Make.STATES + " l5", SockEmbassy::expelledCount);
        Expect.sentence("It is away then.");
        Expect.answers(true, Make.STATES + " l5", x -> x.isAway(5));
        Expect.sentence("Returns the number of days that were left until the last day of its visa, which can be");
        Expect.answers(10, Make.STATES, x -> x.leave(5));
        Expect.answers(20, Make.STATES + " r5+9 r5+1", x -> x.leave(5));
        Expect.answers(1, Make.STATES + " y9", x -> x.leave(5));
        Expect.answers(0, Make.STATES + " y10", x -> x.leave(5));
        Expect.answers(-1, Make.STATES + " y11 k4", x -> x.leave(4));
        Expect.answers(-30, Make.STATES + " y20 y20 k4", x -> x.leave(3));
        Expect.socks((x, sock) -> x.leave(sock));
        Expect.sentence("Throws `UnsupportedOperationException` if the call is rejected with the reason");
        for (int sock : new int[] {0, 1, 2}) {
            Expect.rejects(SockEmbassy.NOT_RESIDENT, sock, Make.STATES, x -> x.leave(sock));
        }
        Expect.rejects(SockEmbassy.NOT_RESIDENT, 5, Make.STATES + " l5", x -> x.leave(5));
        Expect.rejects(SockEmbassy.PAIRED, 4, Make.STATES, x -> x.leave(3));
        Expect.rejects(SockEmbassy.PAIRED, 3, Make.STATES, x -> x.leave(4));
        Expect.answers(10, Make.STATES + " k4", x -> x.leave(3));
    }

    private static void moving() {
        Expect.promise(24);
        Expect.sentence("Moves a resident to another drawer by a treaty.");
        SockEmbassy office = Make.office(Make.STATES + " t34o m5>4");
        Expect.is(4, office.drawerOf(5));
        Expect.is(true, office.isResident(5));
        Expect.is(2, office.residents(3));
        Expect.is(1, office.residents(4));
        Expect.is(5, office.residentAt(4, 0));
        Expect.is(10, office.move(5, 3));
        Expect.is(3, office.drawerOf(5));
        Expect.is(3, office.admittedCount());
        Expect.drawers((x, drawer) -> x.move(5, drawer));
        Expect.everyDrawer((x, drawer) -> x.move(0, drawer));
        Expect.everySock((x, sock) -> x.move(sock, 1));
        Expect.everySock((x, sock) -> x.move(sock, 4));
    }

    private static void visasOfMoves() {
        Expect.promise(24);
        Expect.sentence("Returns the last day of its visa after the call.");
        Expect.answers(10, Make.STATES + " t30o", x -> x.move(5, 0));
        Expect.answers(3, Make.STATES + " t30s", x -> x.move(5, 0));
        Expect.answers(10, Make.STATES + " t30x", x -> x.move(5, 0));
        Expect.answers(19, Make.STATES + " r5+9 t30x", x -> x.move(5, 0));
        Expect.answers(3, Make.STATES + " r5+9 t30s", x -> x.move(5, 0));
        Expect.answers(3, Make.STATES + " t30s m5>0", x -> x.visaDay(5));
        Expect.answers(10, Make.STATES + " y20 k3 t03s", x -> x.move(3, 0));
        Expect.answers(10, Make.STATES + " y20 k3 t03o", x -> x.move(3, 0));
    }

    private static void rejectedMoves() {
        Expect.promise(24);
        Expect.sentence("Throws `UnsupportedOperationException` if the call is rejected with the reason");
        for (int sock : new int[] {0, 1, 2}) {
            Expect.rejects(SockEmbassy.NOT_RESIDENT, sock, Make.STATES, x -> x.move(sock, 1));
        }
        Expect.rejects(SockEmbassy.PAIRED, 4, Make.STATES + " t34o", x -> x.move(3, 4));
        Expect.rejects(SockEmbassy.NO_TREATY, 3, Make.STATES + " t01o", x -> x.move(5, 1));
        Expect.rejects(SockEmbassy.NO_TREATY, 3, Make.STATES + " t30o", x -> x.move(5, 3));
        // With all the reasons at once, the first that is named counts; each is ended in its turn.
        String all = BOTH + " b0r";
        Expect.rejects(SockEmbassy.PAIRED, 3, all, x -> x.move(4, 0));
        Expect.rejects(SockEmbassy.NO_TREATY, 3, all, x -> x.move(5, 0));
        Expect.rejects(SockEmbassy.CLAUSE, 3, all + " t30x", x -> x.move(5, 0));
        Expect.rejects(SockEmbassy.QUOTA, 2, all + " t30o", x -> x.move(5, 0));
        Expect.rejects(SockEmbassy.QUOTA, 3, all + " t30s q0=3", x -> x.move(5, 0));
        Expect.rejects(SockEmbassy.BANNED, 5, all + " t30o q0=4", x -> x.move(5, 0));
        Expect.answers(10, all + " t30o q0=4 u0r", x -> x.move(5, 0));
        Expect.rejects(SockEmbassy.QUOTA, 0, Make.STATES + " t30x q0=0", x -> x.move(5, 0));
        // The quota and the bans of the drawer that the sock leaves are nothing to it.
        Expect.answers(10, Make.STATES + " t30o q3=0 b3r", x -> x.move(5, 0));
    }
}
