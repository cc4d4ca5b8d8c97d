import java.util.NoSuchElementException;

/** Promises 15 to 21: applications and decisions. */
final class ApplicationTests {
    private static final String NO_ELEMENT = NoSuchElementException.class.getName();
    // Four applications to drawer 2, which has three places, and one to drawer 1.
    private static final String FIVE = "nr1 ng1 nb1 nw1 nr2 a0>2 a1>2 a2>2 a3>2 a4>1";

    private ApplicationTests() {
    }

    static void run() {
        applying();
        refusedApplications();
        withdrawing();
        appealing();
        refusedAppeals();
        deciding();
        admitting();
        forecast();
        queue();
        queuePositions();
        pending();
    }

    private static void applying() {
        Expect.promise(15);
        Expect.sentence("Lets a sock that is away apply to a drawer.");
        Expect.answers(1, Make.STATES, x -> x.apply(0, 1));
        Expect.answers(1, Make.STATES + " w1", x -> x.apply(1, 1));
        Expect.answers(1, Make.STATES + " w2", x -> x.apply(2, 1));
        Expect.answers(1, Make.STATES + " l5", x -> x.apply(5, 1));
        Expect.answers(1, Make.STATES + " y11", x -> x.apply(5, 1));
        Expect.sentence("It is pending then, with an application of level 1 of the present day.");
        Expect.answers(true, Make.STATES + " a0>4", x -> x.isPending(0));
        Expect.answers(4, Make.STATES + " a0>4", x -> x.drawerOf(0));
        Expect.answers(1, Make.STATES + " a0>4", x -> x.levelOf(0));
        Expect.answers(1, Make.STATES + " p2 d1 p2 d1 w2 a2>1", x -> x.levelOf(2));
        Expect.answers(1, "nr1 nr1 a1>0 y1 a0>0", x -> x.queueAt(0, 0));
        Expect.answers(0, "nr1 nr1 y1 a1>0 a0>0", x -> x.queueAt(0, 0));
        Expect.answers(0, "nr1 nr1 a1>0 y1 a0>0 w1 a1>0", x -> x.queueAt(0, 0));
        Expect.sentence("Returns the number of pending socks that have applied to the drawer after the call.");
        SockEmbassy full = Make.office(Expect.FOURTEEN);
        for (int sock = 0; sock < 14; sock++) {
            Expect.is(sock + 1, full.apply(sock, 4));
        }
        // Neither socks of other drawers nor those that are decided count.
        Expect.answers(1, Make.STATES, x -> x.apply(0, 3));
        Expect.answers(1, Make.STATES, x -> x.apply(0, 1));
        Expect.answers(2, Make.STATES, x -> x.apply(0, 2));
    }

    private static void refusedApplications() {
        Expect.promise(15);
        Expect.drawers((x, drawer) -> x.apply(0, drawer));
        Expect.everyDrawer((x, drawer) -> x.apply(3, drawer));
        Expect.everySock((x, sock) -> x.apply(sock, 0));
        Expect.everySock((x, sock) -> x.apply(sock, 4));
        Expect.sentence("Throws `UnsupportedOperationException` if the call is rejected with the reason NOT_AWAY");
        Expect.rejects(SockEmbassy.NOT_AWAY, 2, Make.STATES, x -> x.apply(1, 0));
        Expect.rejects(SockEmbassy.NOT_AWAY, 2, Make.STATES, x -> x.apply(1, 2));
        Expect.rejects(SockEmbassy.NOT_AWAY, 1, Make.STATES, x -> x.apply(2, 1));
        Expect.rejects(SockEmbassy.NOT_AWAY, 3, Make.STATES, x -> x.apply(3, 0));
        Expect.rejects(SockEmbassy.NOT_AWAY, 3, Make.STATES, x -> x.apply(5, 3));
        Expect.rejects(SockEmbassy.NOT_AWAY, 3, Make.STATES + " y10", x -> x.apply(5, 4));
    }

    private static void withdrawing() {
        Expect.promise(16);
        Expect.sentence("Withdraws the application of a sock that is pending or refused.");
        Expect.answers(0, Make.STATES + " w1", x -> x.pendingCount(2));
        Expect.answers(NO_ELEMENT, Make.STATES + " w1", x -> x.queueAt(2, 0));
        Expect.answers(NO_ELEMENT, Make.STATES + " w1", x -> x.levelOf(1));
        Expect.answers(NO_ELEMENT, Make.STATES + " w2", x -> x.levelOf(2));
        Expect.answers(1, Make.STATES + " p2 d1 p2 d1", x -> x.withdraw(2));
        Expect.sentence("The sock is away then.");
        Expect.answers(true, Make.STATES + " w1", x -> x.isAway(1));
        Expect.answers(true, Make.STATES + " w2", x -> x.isAway(2));
        Expect.sentence("Returns the drawer to which it had applied.");
        for (int drawer = 0; drawer < 5; drawer++) {
            String apply = "nr1 q" + drawer + "=0 a0>" + drawer;
            Expect.answers(drawer, apply, x -> x.withdraw(0));
            Expect.answers(drawer, apply + " d" + drawer, x -> x.withdraw(0));
        }
        Expect.socks((x, sock) -> x.withdraw(sock));
        Expect.sentence("Throws `UnsupportedOperationException` if the call is rejected with the reason");
        for (int sock : new int[] {0, 3, 5}) {
            Expect.rejects(SockEmbassy.NO_APPLICATION, sock, Make.STATES, x -> x.withdraw(sock));
        }
        Expect.rejects(SockEmbassy.NO_APPLICATION, 1, Make.STATES + " w1", x -> x.withdraw(1));
    }

    private static void appealing() {
        Expect.promise(17);
        Expect.sentence("Lets a refused sock appeal.");
        Expect.answers(0, Make.STATES, x -> x.pendingCount(1));
        Expect.answers(1, Make.STATES + " p2", x -> x.pendingCount(1));
        Expect.answers(2, Make.STATES + " p2", x -> x.queueAt(1, 0));
        Expect.answers(1, Make.STATES + " q1=1 p2", x -> x.decide(1));
        Expect.sentence("It is pending again then, with an application of the next level and of the present day.");
        Expect.answers(true, Make.STATES + " p2", x -> x.isPending(2));
        Expect.answers(false, Make.STATES + " p2", x -> x.isRefused(2));
        Expect.answers(1, Make.STATES + " p2", x -> x.drawerOf(2));
        Expect.answers(2, Make.STATES + " p2", x -> x.levelOf(2));
        // The other sock of the same level is earlier, though it has the higher index; on one day the index counts.
        String two = "nr1 nr1 q0=0 a0>0 a1>0 d0";
        Expect.answers(1, two + " p1 y1 p0", x -> x.queueAt(0, 0));
        Expect.answers(0, two + " y1 p1 p0", x -> x.queueAt(0, 0));
        Expect.sentence("Returns the level of the application after the call.");
        Expect.answers(2, Make.STATES, x -> x.appeal(2));
        Expect.answers(3, Make.STATES + " p2 d1", x -> x.appeal(2));
        Expect.socks((x, sock) -> x.appeal(sock));
    }

    private static void refusedAppeals() {
        Expect.promise(17);
        Expect.sentence("Throws `UnsupportedOperationException` if the call is rejected with the reason NOT_REFUSED");
        for (int sock : new int[] {0, 1, 3, 5}) {
            Expect.rejects(SockEmbassy.NOT_REFUSED, sock, Make.STATES, x -> x.appeal(sock));
        }
        Expect.rejects(SockEmbassy.NOT_REFUSED, 2, Make.STATES + " p2", x -> x.appeal(2));
        Expect.rejects(SockEmbassy.NOT_REFUSED, 2, Make.STATES + " w2", x -> x.appeal(2));
        Expect.rejects(SockEmbassy.NOT_REFUSED, 2, Make.STATES + " p2 d1 p2", x -> x.appeal(2));
        Expect.rejects(SockEmbassy.FINAL_LEVEL, 1, Make.STATES + " p2 d1 p2 d1", x -> x.appeal(2));
        Expect.rejects(SockEmbassy.FINAL_LEVEL, 4, "nr1 q4=0 a0>4 d4 p0 d4 p0 d4 q4=9", x -> x.appeal(0));
    }

    private static void deciding() {
        Expect.promise(18);
        Expect.sentence("Decides all applications to a drawer.");
        SockEmbassy office = Make.office(FIVE + " y3 d2");
        Expect.is(0, office.pendingCount(2));
        for (int sock = 0; sock < 3; sock++) {
            Expect.is(true, office.isResident(sock));
            Expect.is(2, office.drawerOf(sock));
            Expect.is(13, office.visaDay(sock));
        }
        Expect.is(true, office.isRefused(3));
        Expect.is(2, office.drawerOf(3));
        Expect.is(1, office.levelOf(3));
        // No application to another drawer is decided, and none a second time.
        Expect.is(true, office.isPending(4));
        Make.run(office, "l0 d2");
        Expect.is(true, office.isRefused(3));
        Expect.is(1, office.refusedCount());
        Expect.answers(0, Expect.FOURTEEN + "a0>3 a1>3 a2>3 a3>3 a4>3 a5>3 a6>3 a7>3 a8>3 a9>3 a10>3 a11>3 d3",
                x -> x.pendingCount(3));
    }

    private static void admitting() {
        Expect.promise(18);
        Expect.sentence("Returns the number of socks that become residents.");
        Expect.answers(0, "", x -> x.decide(4));
        Expect.answers(3, FIVE, x -> x.decide(2));
        Expect.answers(1, FIVE, x -> x.decide(1));
        Expect.answers(0, FIVE, x -> x.decide(0));
        Expect.answers(0, FIVE + " q2=0", x -> x.decide(2));
        Expect.answers(4, FIVE + " q2=4", x -> x.decide(2));
        Expect.answers(4, FIVE + " q2=5", x -> x.decide(2));
        Expect.answers(3, FIVE + " b2g", x -> x.decide(2));
        Expect.answers(2, FIVE + " b2g b2w", x -> x.decide(2));
        Expect.answers(0, FIVE + " b2g b2w b2r b2b", x -> x.decide(2));
        Expect.answers(0, FIVE + " d2 q2=2 p3", x -> x.decide(2));
        Expect.answers(9, fourteenAt(2) + "q2=9", x -> x.decide(2));
        Expect.drawers((x, drawer) -> x.decide(drawer));
    }

    private static String fourteenAt(int drawer) {
        StringBuilder words = new StringBuilder(Expect.FOURTEEN);
        for (int sock = 0; sock < 14; sock++) {
            words.append('a').append(sock).append('>').append(drawer).append(' ');
        }
        return words.toString();
    }

    private static void forecast() {
        Expect.promise(19);
        Expect.sentence("Returns how many socks would become residents if the applications to a drawer were decided",
                "Returns the number of socks.");
        Expect.answers(0, "", x -> x.wouldAdmit(0));
        Expect.answers(3, FIVE, x -> x.wouldAdmit(2));
        Expect.answers(1, FIVE, x -> x.wouldAdmit(1));
        Expect.answers(0, FIVE, x -> x.wouldAdmit(4));
        Expect.answers(0, FIVE + " q2=0", x -> x.wouldAdmit(2));
        Expect.answers(4, FIVE + " q2=4", x -> x.wouldAdmit(2));
        Expect.answers(4, FIVE + " q2=9", x -> x.wouldAdmit(2));
        Expect.answers(3, FIVE + " b2g", x -> x.wouldAdmit(2));
        Expect.answers(2, FIVE + " b2g b2w", x -> x.wouldAdmit(2));
        Expect.answers(0, FIVE + " d2", x -> x.wouldAdmit(2));
        Expect.answers(0, FIVE + " d2 p3", x -> x.wouldAdmit(2));
        Expect.answers(1, FIVE + " d2 p3 l0", x -> x.wouldAdmit(2));
        // There can be more residents than the quota says.
        Expect.answers(0, FIVE + " d2 p3 q2=2", x -> x.wouldAdmit(2));
        Expect.answers(0, FIVE + " d2 p3 q2=0", x -> x.wouldAdmit(2));
        Expect.answers(9, fourteenAt(2) + "q2=9", x -> x.wouldAdmit(2));
        Expect.onlyTells(FIVE, x -> x.wouldAdmit(2));
        Expect.drawers(SockEmbassy::wouldAdmit);
    }

    private static void queue() {
        Expect.promise(20);
        Expect.sentence("Returns a pending sock in the order in which the applications to a drawer would be decided.",
                "Returns the index of the sock.");
        SockEmbassy office = Make.office("nr1 nr1 nr1 nr1 nr1 nr1 q0=0 a5>0 a4>0 d0 p5 d0");
        Make.run(office, "a3>0 y1 p4 a2>0 a1>0 y1 p5 a0>1");
        int[] due = {5, 4, 3, 1, 2};
        for (int position = 0; position < due.length; position++) {
            Expect.is(due[position], office.queueAt(0, position));
        }
        Expect.is(0, office.queueAt(1, 0));
    }

    private static void queuePositions() {
        Expect.promise(20);
        Expect.sentence("- `position`: the position, from 0");
        for (int position = 0; position < 14; position++) {
            int some = position;
            Expect.answers(position, fourteenAt(3), x -> x.queueAt(3, some));
        }
        Expect.answers(0, FIVE, x -> x.queueAt(2, 0));
        Expect.answers(3, FIVE, x -> x.queueAt(2, 3));
        Expect.drawers((x, drawer) -> x.queueAt(drawer, 0));
        Expect.outside(FIVE, (x, drawer) -> x.queueAt(drawer, -1), -1, 5);
        Expect.sentence("Throws `NoSuchElementException` if there is no such position");
        for (int position : new int[] {Integer.MIN_VALUE, -1, 4, 5, 14, Integer.MAX_VALUE}) {
            Expect.fails(NoSuchElementException.class, FIVE, x -> x.queueAt(2, position));
        }
        Expect.fails(NoSuchElementException.class, fourteenAt(3), x -> x.queueAt(3, 14));
        Expect.fails(NoSuchElementException.class, fourteenAt(3), x -> x.queueAt(3, -1));
        for (int drawer : new int[] {0, 1, 3, 4}) {
            Expect.fails(NoSuchElementException.class, Make.STATES, x -> x.queueAt(drawer, 0));
        }
        Expect.fails(NoSuchElementException.class, "", x -> x.queueAt(0, 0));
    }

    private static void pending() {
        Expect.promise(21);
        Expect.sentence("Returns the number of pending socks that have applied to a drawer.",
                "Returns the number of socks.");
        int[] due = {0, 0, 1, 0, 0};
        for (int drawer = 0; drawer < 5; drawer++) {
            int some = drawer;
            Expect.answers(due[drawer], Make.STATES, x -> x.pendingCount(some));
            Expect.answers(0, "", x -> x.pendingCount(some));
        }
        Expect.answers(1, Make.STATES + " p2", x -> x.pendingCount(1));
        Expect.answers(2, Make.STATES + " a0>2", x -> x.pendingCount(2));
        Expect.answers(0, Make.STATES + " d2", x -> x.pendingCount(2));
        Expect.answers(14, fourteenAt(0), x -> x.pendingCount(0));
        Expect.drawers(SockEmbassy::pendingCount);
    }
}
