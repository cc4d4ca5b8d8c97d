import java.util.NoSuchElementException;

/** Promises 15 to 24: applications and visas. */
final class ApplicationTests {
    private ApplicationTests() {
    }

    static void run() {
        applying();
        withdrawing();
        appealing();
        deciding();
        decidingInOrder();
        forecast();
        queue();
        pending();
        renewing();
        leaving();
        moving();
        movingByClauses();
        rejectedMoves();
    }

    private static void applying() {
        Expect.promise(15);
        SockEmbassy office = Make.office("nr1 nr2 nr3 y2");
        Expect.is(1, office.apply(0, 0));
        Expect.is(1, office.apply(2, 4));
        Expect.is(2, office.apply(1, 4));
        Expect.is(true, office.isPending(1));
        Expect.is(1, office.levelOf(1));
        Expect.is(4, office.drawerOf(1));
        Expect.rejects(SockEmbassy.NOT_AWAY, 2, Make.STATES, x -> x.apply(1, 0));
        Expect.rejects(SockEmbassy.NOT_AWAY, 1, Make.STATES, x -> x.apply(2, 0));
        Expect.rejects(SockEmbassy.NOT_AWAY, 3, Make.STATES, x -> x.apply(3, 0));
        Expect.rejects(SockEmbassy.NOT_AWAY, 3, Make.STATES, x -> x.apply(3, 3));
        Expect.noSock((x, sock) -> x.apply(sock, 0));
        Expect.noDrawer((x, drawer) -> x.apply(0, drawer));
        Expect.noDrawer((x, drawer) -> x.apply(1, drawer));
        // A new application begins at level 1 again.
        SockEmbassy again = Make.office("nr1 q0=0 a0>0 d0 p0 d0 w0 a0>0");
        Expect.is(1, again.levelOf(0));
    }

    private static void withdrawing() {
        Expect.promise(16);
        SockEmbassy office = Make.office(Make.STATES);
        Expect.is(2, office.withdraw(1));
        Expect.is(true, office.isAway(1));
        Expect.is(0, office.pendingCount(2));
        Expect.is(1, office.withdraw(2));
        Expect.is(true, office.isAway(2));
        Expect.rejects(SockEmbassy.NO_APPLICATION, 0, Make.STATES, x -> x.withdraw(0));
        Expect.rejects(SockEmbassy.NO_APPLICATION, 3, Make.STATES, x -> x.withdraw(3));
        Expect.rejects(SockEmbassy.NO_APPLICATION, 1, Make.STATES + " w1", x -> x.withdraw(1));
        Expect.noSock((x, sock) -> x.withdraw(sock));
    }

    private static void appealing() {
        Expect.promise(17);
        SockEmbassy office = Make.office(Make.STATES);
        Expect.is(2, office.appeal(2));
        Expect.is(true, office.isPending(2));
        Expect.is(1, office.drawerOf(2));
        office.decide(1);
        Expect.is(3, office.appeal(2));
        office.decide(1);
        Expect.is(true, office.isRefused(2));
        String last = Make.STATES + " p2 d1 p2 d1";
        Expect.rejects(SockEmbassy.FINAL_LEVEL, 1, last, x -> x.appeal(2));
        Expect.rejects(SockEmbassy.NOT_REFUSED, 2, Make.STATES + " p2 d1 p2", x -> x.appeal(2));
        for (int sock : new int[] {0, 1, 3, 5}) {
            Expect.rejects(SockEmbassy.NOT_REFUSED, sock, Make.STATES, x -> x.appeal(sock));
        }
        Expect.noSock((x, sock) -> x.appeal(sock));
        // An appeal has the day on which it is made: sock 1 of the same level is earlier.
        SockEmbassy days = Make.office("nr1 nr1 q0=0 a0>0 a1>0 d0 p1 y1 p0");
        Expect.is(1, days.queueAt(0, 0));
        Expect.is(0, days.queueAt(0, 1));
    }

    private static void deciding() {
        Expect.promise(18);
        SockEmbassy office = Make.office("nr1 ng1 nb1 nw1 nr2 y3 a0>2 a1>2 a2>2 a3>2 a4>1");
        Expect.is(3, office.decide(2));
        for (int sock = 0; sock < 3; sock++) {
            Expect.is(true, office.isResident(sock));
            Expect.is(2, office.drawerOf(sock));
            Expect.is(13, office.visaDay(sock));
        }
        Expect.is(true, office.isRefused(3));
        Expect.is(2, office.drawerOf(3));
        Expect.is(1, office.levelOf(3));
        Expect.is(true, office.isPending(4));
        Expect.is(0, office.decide(2));
        Expect.is(3, office.admittedCount());
        Expect.is(1, office.refusedCount());
        // A lowered quota leaves no room; a ban refuses just its colour.
        Make.run(office, "q2=2 p3");
        Expect.is(0, office.decide(2));
        SockEmbassy bans = Make.office("nr1 ng1 nw1 b0g b1r a0>0 a1>0 a2>0");
        Expect.is(2, bans.decide(0));
        Expect.is(true, bans.isRefused(1));
        Expect.is(0, new SockEmbassy().decide(4));
        Expect.noDrawer((x, drawer) -> x.decide(drawer));
    }

    private static void decidingInOrder() {
        // One place: the highest level wins, then the earlier day, then the lower index.
        String waiting = "nr1 nr1 nr1 nr1 q0=0 a3>0 d0 ";
        SockEmbassy level = Make.office(waiting + "a0>0 y1 p3 q0=1");
        Expect.is(1, level.decide(0));
        Expect.is(true, level.isResident(3));
        Expect.is(true, level.isRefused(0));
        SockEmbassy day = Make.office(waiting + "a2>0 y1 a1>0 a0>0 q0=1");
        Expect.is(1, day.decide(0));
        Expect.is(true, day.isResident(2));
        SockEmbassy index = Make.office(waiting + "a2>0 a1>0 q0=1");
        Expect.is(1, index.decide(0));
        Expect.is(true, index.isResident(1));
    }

    private static void forecast() {
        Expect.promise(19);
        SockEmbassy office = Make.office("nr1 ng1 nb1 nw1 nr2 a0>2 a1>2 a2>2 a3>2 a4>1");
        Expect.is(3, office.wouldAdmit(2));
        Expect.is(1, office.wouldAdmit(1));
        Expect.is(0, office.wouldAdmit(0));
        office.ban(2, 'g');
        Expect.is(3, office.wouldAdmit(2));
        office.ban(2, 'w');
        Expect.is(2, office.wouldAdmit(2));
        Expect.is(4, office.pendingCount(2));
        Expect.is(2, office.decide(2));
        // Residents count, also where they are more than the quota says.
        Make.run(office, "u2w p3");
        Expect.is(1, office.wouldAdmit(2));
        office.setQuota(2, 1);
        Expect.is(0, office.wouldAdmit(2));
        Expect.noDrawer((x, drawer) -> x.wouldAdmit(drawer));
    }

    private static void queue() {
        Expect.promise(20);
        SockEmbassy office = Make.office("nr1 nr1 nr1 nr1 nr1 nr1 q0=0 a5>0 a4>0 d0 p5 d0");
        Make.run(office, "a3>0 y1 p4 a2>0 a1>0 y1 p5 a0>1");
        int[] due = {5, 4, 3, 1, 2};
        for (int position = 0; position < due.length; position++) {
            Expect.is(due[position], office.queueAt(0, position));
        }
        Expect.is(0, office.queueAt(1, 0));
        for (int position : new int[] {Integer.MIN_VALUE, -1, 1, 2, 14, Integer.MAX_VALUE}) {
            Expect.fails(NoSuchElementException.class, Make.STATES, x -> x.queueAt(2, position));
        }
        for (int drawer : new int[] {0, 1, 3, 4}) {
            Expect.fails(NoSuchElementException.class, Make.STATES, x -> x.queueAt(drawer, 0));
        }
        Expect.noDrawer((x, drawer) -> x.queueAt(drawer, 0));
        Expect.noDrawer((x, drawer) -> x.queueAt(drawer, -1));
    }

    private static void pending() {
        Expect.promise(21);
        SockEmbassy office = Make.office(Make.STATES);
        int[] due = {0, 0, 1, 0, 0};
        for (int drawer = 0; drawer < 5; drawer++) {
            Expect.is(due[drawer], office.pendingCount(drawer));
        }
        Make.run(office, "p2 a0>2 ");
        Expect.is(1, office.pendingCount(1));
        Expect.is(2, office.pendingCount(2));
        Expect.noDrawer((x, drawer) -> x.pendingCount(drawer));
    }

    private static void renewing() {
        Expect.promise(22);
        SockEmbassy office = Make.office(Make.STATES);
        Expect.is(11, office.renew(5, 1));
        Expect.is(20, office.renew(5, 9));
        Expect.is(20, office.visaDay(5));
        Expect.is(19, office.renew(3, 9));
        Expect.is(10, office.visaDay(4));
        Expect.rejects(SockEmbassy.VISA_LIMIT, 20, Make.STATES + " r5+1 r5+9", x -> x.renew(5, 1));
        Expect.rejects(SockEmbassy.VISA_LIMIT, 19, Make.STATES + " r5+9", x -> x.renew(5, 2));
        Expect.is(21, Make.office(Make.STATES + " r5+9 y1").renew(5, 2));
        for (int sock : new int[] {0, 1, 2}) {
            Expect.rejects(SockEmbassy.NOT_RESIDENT, sock, Make.STATES, x -> x.renew(sock, 1));
        }
        for (int days : new int[] {Integer.MIN_VALUE, -1, 0, 10, Integer.MAX_VALUE}) {
            Expect.fails(IllegalArgumentException.class, Make.STATES, x -> x.renew(5, days));
            Expect.fails(IllegalArgumentException.class, Make.STATES, x -> x.renew(0, days));
        }
        Expect.noSock((x, sock) -> x.renew(sock, 1));
        Expect.noSock((x, sock) -> x.renew(sock, 0));
        // A visa that has ended while its sock was paired is renewed from its last day.
        Expect.is(14, Make.office(Make.STATES + " y20 k3").renew(3, 4));
    }

    private static void leaving() {
        Expect.promise(23);
        SockEmbassy office = Make.office(Make.STATES + " y4");
        Expect.is(6, office.leave(5));
        Expect.is(true, office.isAway(5));
        Expect.is(2, office.residents(3));
        Expect.is(0, Make.office(Make.STATES + " y10").leave(5));
        Expect.is(-5, Make.office(Make.STATES + " y15 k4").leave(4));
        Expect.rejects(SockEmbassy.PAIRED, 4, Make.STATES, x -> x.leave(3));
        Expect.rejects(SockEmbassy.PAIRED, 3, Make.STATES, x -> x.leave(4));
        for (int sock : new int[] {0, 1, 2}) {
            Expect.rejects(SockEmbassy.NOT_RESIDENT, sock, Make.STATES, x -> x.leave(sock));
        }
        Expect.noSock((x, sock) -> x.leave(sock));
        Expect.is(0, office.expelledCount());
    }

    private static void moving() {
        Expect.promise(24);
        SockEmbassy office = Make.office(Make.STATES + " t31o");
        office.setQuota(1, 3);
        Expect.is(10, office.move(5, 1));
        Expect.is(1, office.drawerOf(5));
        Expect.is(true, office.isResident(5));
        Expect.is(10, office.visaDay(5));
        Expect.is(2, office.residents(3));
        Expect.is(1, office.residents(1));
        Expect.is(10, office.move(5, 3));
        Expect.is(3, office.drawerOf(5));
        Expect.noSock((x, sock) -> x.move(sock, 1));
        Expect.noDrawer((x, drawer) -> x.move(5, drawer));
        Expect.noDrawer((x, drawer) -> x.move(0, drawer));
    }

    private static void movingByClauses() {
        // The short clause cuts a visa to 3 days from now, and never makes it longer.
        Expect.is(3, Make.office(Make.STATES + " t30s").move(5, 0));
        Expect.is(9, Make.office(Make.STATES + " y6 t30s").move(5, 0));
        Expect.is(10, Make.office(Make.STATES + " y7 t30s").move(5, 0));
        Expect.is(10, Make.office(Make.STATES + " y8 t03s").move(5, 0));
        Expect.is(10, Make.office(Make.STATES + " y20 k3 t03s").move(3, 0));
        Expect.is(3, Make.office(Make.STATES + " r5+9 t30s").move(5, 0));
        Expect.is(19, Make.office(Make.STATES + " r5+9 t30x").move(5, 0));
        // With the exchange clause, fewer is one less at least.
        String rooms = Make.STATES + " nb1 nb2 nb3 a6>0 a7>0 ";
        Expect.is(10, Make.office(rooms + "d0 t30x").move(5, 0));
        Expect.rejects(SockEmbassy.CLAUSE, 3, rooms + "a8>0 d0 q0=9 t30x", x -> x.move(5, 0));
        Expect.rejects(SockEmbassy.CLAUSE, 2, rooms + "d0 t03x", x -> x.move(6, 3));
    }

    private static void rejectedMoves() {
        for (int sock : new int[] {0, 1, 2}) {
            Expect.rejects(SockEmbassy.NOT_RESIDENT, sock, Make.STATES, x -> x.move(sock, 1));
        }
        Expect.rejects(SockEmbassy.PAIRED, 4, Make.STATES, x -> x.move(3, 1));
        Expect.rejects(SockEmbassy.NO_TREATY, 3, Make.STATES + " t01o", x -> x.move(5, 1));
        Expect.rejects(SockEmbassy.NO_TREATY, 3, Make.STATES + " t30o", x -> x.move(5, 3));
        // With all the reasons at once, the first that is named counts; each is ended in its turn.
        String full = Make.STATES + " nw1 nw2 nw3 a6>0 a7>0 a8>0 d0 q0=2 b0r";
        Expect.rejects(SockEmbassy.PAIRED, 3, full, x -> x.move(4, 0));
        Expect.rejects(SockEmbassy.NO_TREATY, 3, full, x -> x.move(5, 0));
        Expect.rejects(SockEmbassy.CLAUSE, 3, full + " t30x", x -> x.move(5, 0));
        Expect.rejects(SockEmbassy.QUOTA, 2, full + " t30o", x -> x.move(5, 0));
        Expect.rejects(SockEmbassy.QUOTA, 3, full + " t30s q0=3", x -> x.move(5, 0));
        Expect.rejects(SockEmbassy.BANNED, 5, full + " t30o q0=4", x -> x.move(5, 0));
        Expect.is(10, Make.office(full + " t30o q0=4 u0r").move(5, 0));
        Expect.rejects(SockEmbassy.QUOTA, 0, Make.STATES + " t30x q0=0", x -> x.move(5, 0));
    }
}
