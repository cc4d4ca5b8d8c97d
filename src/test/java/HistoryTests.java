import java.util.NoSuchElementException;

/** Promises 57 to 62: rejections, undo and the snapshot. */
final class HistoryTests {
    private HistoryTests() {
    }

    static void run() {
        constants();
        latestRejection();
        causes();
        undoingEveryChange();
        undoing();
        daysOfApplications();
        noChanges();
        whatUndoLeaves();
        snapshots();
        snapshotsOfSocks();
        whatTheSnapshotLeaves();
    }

    private static void constants() {
        Expect.promise(57);
        int[] constants = {SockEmbassy.SOCK_LIMIT, SockEmbassy.NOT_AWAY, SockEmbassy.NO_APPLICATION,
            SockEmbassy.NOT_REFUSED, SockEmbassy.FINAL_LEVEL, SockEmbassy.NOT_RESIDENT, SockEmbassy.VISA_LIMIT,
            SockEmbassy.PAIRED, SockEmbassy.NOT_PAIRED, SockEmbassy.OTHER_DRAWER, SockEmbassy.NO_MATCH,
            SockEmbassy.NO_TREATY, SockEmbassy.CLAUSE, SockEmbassy.QUOTA, SockEmbassy.BANNED,
            SockEmbassy.TREATY_EXISTS, SockEmbassy.COMMAND_REJECTED};
        for (int i = 0; i < constants.length; i++) {
            Expect.is(i + 1, constants[i]);
        }
    }

    private static void latestRejection() {
        Expect.promise(57);
        Expect.fails(NoSuchElementException.class, Make.STATES, SockEmbassy::rejectionReason);
        Expect.promise(58);
        Expect.fails(NoSuchElementException.class, Make.STATES, SockEmbassy::rejectionDetail);
        SockEmbassy office = Make.office(Make.STATES);
        rejected(office, x -> x.apply(3, 0), SockEmbassy.NOT_AWAY, 3);
        rejected(office, x -> x.leave(3), SockEmbassy.PAIRED, 4);
        rejected(office, x -> x.leave(1), SockEmbassy.NOT_RESIDENT, 1);
        // Other exceptions, changes, undo and the snapshot leave it.
        Expect.throwing(IndexOutOfBoundsException.class, office, x -> x.leave(6));
        Expect.throwing(IllegalArgumentException.class, office, x -> x.pair(3, 3));
        office.saveSnapshot();
        office.leave(5);
        office.undo();
        office.restoreSnapshot();
        Expect.is(false, office.canMove(5, 0));
        Make.type(office, "e01");
        Expect.throwing(IllegalStateException.class, office, SockEmbassy::execute);
        Expect.promise(57);
        Expect.is(SockEmbassy.NOT_RESIDENT, office.rejectionReason());
        Expect.promise(58);
        Expect.is(1, office.rejectionDetail());
    }

    private static void rejected(SockEmbassy office, java.util.function.Consumer<SockEmbassy> call,
            int reason, int detail) {
        Expect.throwing(UnsupportedOperationException.class, office, call);
        Expect.promise(57);
        Expect.is(reason, office.rejectionReason());
        Expect.promise(58);
        Expect.is(detail, office.rejectionDetail());
    }

    private static void causes() {
        Expect.promise(59);
        Expect.fails(NoSuchElementException.class, Make.STATES, SockEmbassy::causeReason);
        SockEmbassy office = Make.office(Make.STATES);
        Make.type(office, "y1;l3");
        Expect.throwing(UnsupportedOperationException.class, office, SockEmbassy::execute);
        Expect.is(SockEmbassy.PAIRED, office.causeReason());
        rejected(office, x -> x.leave(1), SockEmbassy.NOT_RESIDENT, 1);
        Expect.promise(59);
        Expect.throwing(NoSuchElementException.class, office, SockEmbassy::causeReason);
    }

    /** Each change can be undone, also one that makes no difference, and leaves all as it was. */
    private static void undoingEveryChange() {
        Expect.promise(60);
        String[] changes = {"nr1", "a0>4", "w1", "w2", "p2", "d2", "d0", "r5+9", "l5", "m5>0", "j5&6", "k3", "q4=0",
            "q4=3", "b4r", "b4g", "u4g", "u4b", "t01o", "e30", "y1", "y20"};
        String setup = Make.STATES + " nw9 a6>3 q3=4 d3 t30s b4g";
        for (String change : changes) {
            SockEmbassy office = Make.office(setup);
            String before = Picture.data(office);
            Make.run(office, change);
            Expect.is(7, office.undo());
            Expect.is(before, Picture.data(office));
            Expect.is(6, office.undo());
            office = Make.office(setup);
            Make.execute(office, change + ";y1");
            Expect.is(7, office.undo());
            Expect.is(before, Picture.data(office));
        }
    }

    private static void undoing() {
        Expect.fails(IllegalStateException.class, "", SockEmbassy::undo);
        SockEmbassy office = new SockEmbassy();
        for (int change = 1; change <= 10; change++) {
            office.passDays(change);
        }
        // 8 of 10 changes are kept; a new one takes the place behind those that are left.
        Expect.is(7, office.undo());
        Expect.is(45, office.day());
        Expect.is(6, office.undo());
        Expect.is(36, office.day());
        office.setQuota(0, 7);
        office.passDays(20);
        for (int left = 7; left >= 0; left--) {
            Expect.is(left, office.undo());
        }
        Expect.is(3, office.day());
        Expect.is(3, office.quotaOf(0));
        Expect.throwing(IllegalStateException.class, office, SockEmbassy::undo);
        Expect.is(3, office.day());
        for (int changes = 1; changes <= 9; changes++) {
            SockEmbassy few = Make.office("y1 ".repeat(changes));
            Expect.is(Math.min(changes, 8) - 1, few.undo());
        }
    }

    /** The days on which applications were made come back too: they order the queue. */
    private static void daysOfApplications() {
        String setup = "nr1 nr1 a1>0 y1 a0>0";
        SockEmbassy office = Make.office(setup + " y1 w1 a1>0");
        Expect.is(0, office.queueAt(0, 0));
        office.undo();
        Expect.is(6, office.undo());
        Expect.is(1, office.queueAt(0, 0));
        Expect.promise(62);
        SockEmbassy saved = Make.office(setup);
        saved.saveSnapshot();
        Make.run(saved, "y1 w1 a1>0");
        saved.restoreSnapshot();
        Expect.is(1, saved.queueAt(0, 0));
        Expect.promise(60);
    }

    private static void noChanges() {
        SockEmbassy office = Make.office(Make.STATES + " y1 y1");
        office.writeSock(3);
        office.wouldExpel(20);
        office.wouldAdmit(2);
        office.canMove(5, 0);
        office.appendInput('y');
        office.saveSnapshot();
        Expect.throwing(UnsupportedOperationException.class, office, x -> x.leave(3));
        Expect.throwing(IndexOutOfBoundsException.class, office, x -> x.leave(7));
        Expect.throwing(IllegalArgumentException.class, office, SockEmbassy::execute);
        Expect.is(7, office.undo());
        Expect.is(1, office.day());
    }

    private static void whatUndoLeaves() {
        SockEmbassy office = Make.office(Make.STATES);
        office.writeSock(5);
        office.appendInput('y');
        office.leave(5);
        office.saveSnapshot();
        office.writeSock(5);
        office.appendInput('1');
        office.undo();
        Expect.is(true, office.isResident(5));
        Expect.is('-', office.outputAt(4));
        Expect.is(1, office.execute());
        Expect.is(1, office.day());
        // The snapshot is that of before the undo.
        office.restoreSnapshot();
        Expect.is(true, office.isAway(5));
    }

    private static void snapshots() {
        Expect.promise(61);
        SockEmbassy office = Make.office(Make.STATES + " b2g t12x");
        Expect.is(6, office.saveSnapshot());
        String saved = Picture.data(office);
        Make.run(office, "nr1 y20 q1=4 t30o u2g e12 k3 w1 a1>4");
        Expect.promise(62);
        Expect.is(6, office.restoreSnapshot());
        Expect.is(saved, Picture.data(office));
        Expect.throwing(IllegalStateException.class, office, SockEmbassy::undo);
        Make.run(office, "nw2 nw3 l5");
        Expect.is(6, office.restoreSnapshot());
        Expect.promise(61);
        Make.run(office, "nw7 nw8 y4");
        Expect.is(8, office.saveSnapshot());
        Expect.is(2, office.undo());
        Expect.is(8, office.restoreSnapshot());
        Expect.is(4, office.day());
        Expect.is('w', office.colourOf(7));
        Expect.is(0, new SockEmbassy().saveSnapshot());
        Expect.promise(62);
        Expect.fails(IllegalStateException.class, Make.STATES, SockEmbassy::restoreSnapshot);
        Expect.fails(IllegalStateException.class, "", SockEmbassy::restoreSnapshot);
    }

    /** A snapshot has the colours and sizes of its socks, also if others have had their indices since. */
    private static void snapshotsOfSocks() {
        SockEmbassy office = Make.office("nr1");
        office.saveSnapshot();
        office.undo();
        office.addSock('g', 2);
        office.restoreSnapshot();
        Expect.is('r', office.colourOf(0));
        Expect.is(1, office.sizeOf(0));
    }

    private static void whatTheSnapshotLeaves() {
        Expect.promise(62);
        SockEmbassy office = Make.office(Make.STATES);
        office.saveSnapshot();
        office.leave(5);
        office.writeSock(5);
        Make.type(office, "y");
        office.restoreSnapshot();
        Expect.is('-', office.outputAt(4));
        Expect.is(2, office.appendInput('4'));
        Expect.is(1, office.execute());
        Expect.is(4, office.day());
        Expect.is(0, office.undo());
        Expect.is(0, office.day());
    }
}
