import java.util.NoSuchElementException;
import java.util.function.Consumer;

/** Promises 57 to 62: rejections, undo and the snapshot. */
final class HistoryTests {
    // Offices in which no call has been rejected, though calls have thrown and moves could not be made.
    private static final String[] NO_REJECTION = {"", Make.STATES, "iy0 !x", "iy !x", "!nr0 !d5 !e01 !U !R"};
    // A treaty and a sock more than Make.STATES, so that every change can be made.
    private static final String SETUP = Make.STATES + " nw9 a6>3 q3=4 d3 t30s b4g";

    private HistoryTests() {
    }

    static void run() {
        latestReasons();
        latestDetails();
        causes();
        noCauses();
        undoing();
        undoingTheLatest();
        changesLeft();
        nothingToUndo();
        saving();
        restoring();
        noUndoAfterwards();
        noSnapshot();
    }

    private static void latestReasons() {
        Expect.promise(57);
        Expect.sentence("Returns the reason of the latest rejection.", "Returns the reason, one of the constants.");
        Expect.answers(SockEmbassy.NOT_AWAY, Make.STATES + " !a3>0", SockEmbassy::rejectionReason);
        Expect.answers(SockEmbassy.PAIRED, Make.STATES + " !a3>0 !l3", SockEmbassy::rejectionReason);
        Expect.answers(SockEmbassy.NOT_AWAY, Make.STATES + " !l3 !a3>0", SockEmbassy::rejectionReason);
        Expect.answers(SockEmbassy.COMMAND_REJECTED, Make.STATES + " !l3 iw0 !x", SockEmbassy::rejectionReason);
        // Other exceptions, changes, undo and the snapshot leave it.
        String others = " !l6 !q5=0 !nr0 !R l5 S U R";
        Expect.answers(SockEmbassy.PAIRED, Make.STATES + " !l3" + others, SockEmbassy::rejectionReason);
        Expect.answers(SockEmbassy.PAIRED, Make.STATES + " !l3 iy1 x iy0 !x iy !x", SockEmbassy::rejectionReason);
        SockEmbassy office = Make.office(Make.STATES + " !l3");
        Expect.is(false, office.canMove(0, 0));
        Expect.is(SockEmbassy.PAIRED, office.rejectionReason());
        Expect.sentence("Throws `NoSuchElementException` if no call was rejected");
        never(SockEmbassy::rejectionReason);
    }

    private static void never(Consumer<SockEmbassy> call) {
        for (String setup : NO_REJECTION) {
            Expect.failsOnce(NoSuchElementException.class, setup, call);
        }
    }

    private static void latestDetails() {
        Expect.promise(58);
        Expect.sentence("Returns the detail of the latest rejection.", "Returns the detail.");
        Expect.answers(3, Make.STATES + " !a3>0", SockEmbassy::rejectionDetail);
        Expect.answers(4, Make.STATES + " !a3>0 !l3", SockEmbassy::rejectionDetail);
        Expect.answers(0, Make.STATES + " !l3 iw0 !x", SockEmbassy::rejectionDetail);
        Expect.answers(1, Make.STATES + " !l3 iy1;w0 !x", SockEmbassy::rejectionDetail);
        Expect.answers(4, Make.STATES + " !l3 !l6 !q5=0 !nr0 !R l5 S U R", SockEmbassy::rejectionDetail);
        Expect.answers(4, Make.STATES + " !l3 iy1 x iy0 !x iy !x", SockEmbassy::rejectionDetail);
        // Neither a check that finds a fault nor a failing command takes its place.
        SockEmbassy office = Make.office(Make.STATES + " !l3");
        Expect.is(false, office.canMove(0, 0));
        Expect.is(4, office.rejectionDetail());
        Expect.sentence("Throws `NoSuchElementException` if no call was rejected");
        never(SockEmbassy::rejectionDetail);
    }

    private static void causes() {
        Expect.promise(59);
        Expect.sentence("Returns the reason of the command that caused the latest rejection.",
                "Returns the reason, one of the constants.");
        String setup = Make.STATES + " t30o nr9 a6>3 q3=4 d3 q3=3";
        caused(SockEmbassy.SOCK_LIMIT, 1, "nr1 ".repeat(13), "nr1;nr1;nr0");
        caused(SockEmbassy.NOT_AWAY, 0, setup, "a1>0");
        caused(SockEmbassy.NO_APPLICATION, 1, setup, "y1;w0");
        caused(SockEmbassy.NOT_REFUSED, 2, setup, "y1;y1;p0");
        caused(SockEmbassy.FINAL_LEVEL, 4, setup, "p2;d1;p2;d1;p2");
        caused(SockEmbassy.NOT_RESIDENT, 0, setup, "r1+1");
        caused(SockEmbassy.VISA_LIMIT, 1, setup, "r5+9;r5+2");
        caused(SockEmbassy.PAIRED, 0, setup, "l3");
        caused(SockEmbassy.NOT_PAIRED, 1, setup, "k3;k4");
        caused(SockEmbassy.OTHER_DRAWER, 1, setup, "m5>0;j5&6");
        caused(SockEmbassy.NO_MATCH, 1, setup, "k4;j4&5");
        caused(SockEmbassy.NO_TREATY, 0, setup, "m5>1");
        caused(SockEmbassy.CLAUSE, 3, setup, "e30;t03x;m5>0;m5>3");
        caused(SockEmbassy.QUOTA, 1, setup, "m5>0;m5>3");
        caused(SockEmbassy.BANNED, 1, setup, "b0r;m5>0");
        caused(SockEmbassy.TREATY_EXISTS, 1, setup, "t12x;t21x");
        caused(SockEmbassy.NOT_AWAY, 17, "", "y1;".repeat(15) + "nr1;a0>0;a0>0");
        caused(SockEmbassy.NO_APPLICATION, 19, "nr1", "y1;".repeat(19) + "w0");
        Expect.answers(SockEmbassy.NO_APPLICATION, Make.STATES + " il3 !x iw0 !x", SockEmbassy::causeReason);
    }

    private static void caused(int cause, int detail, String setup, String input) {
        for (String notes : new String[] {"", Make.NOTES, " !t11o !d5"}) {
            SockEmbassy office = Make.office(setup + notes);
            Make.type(office, input);
            Expect.throwing(UnsupportedOperationException.class, office, SockEmbassy::execute);
            Expect.is(SockEmbassy.COMMAND_REJECTED, office.rejectionReason());
            Expect.is(detail, office.rejectionDetail());
            Expect.is(cause, office.causeReason());
        }
    }

    private static void noCauses() {
        Expect.promise(59);
        Expect.sentence("Throws `NoSuchElementException` if no call was rejected, or the latest rejection has another");
        never(SockEmbassy::causeReason);
        Expect.failsOnce(NoSuchElementException.class, Make.STATES + " !l3", SockEmbassy::causeReason);
        Expect.failsOnce(NoSuchElementException.class, Make.STATES + " iw0 !x !l3", SockEmbassy::causeReason);
        Expect.answers(SockEmbassy.PAIRED, Make.STATES + " !l3 il3 !x iy0 !x", SockEmbassy::causeReason);
    }

    /** Each change can be undone and leaves all as it was, made by its call or by a command. */
    private static void undoing() {
        Expect.promise(60);
        Expect.sentence("Undoes the latest change that has not been undone.");
        String[] changes = {"nr1", "a0>4", "w1", "w2", "p2", "d2", "d0", "r5+9", "l5", "m5>0", "j5&6", "k3", "q4=0",
            "q4=3", "b4r", "b4g", "u4g", "u4b", "t01o", "e30", "y1", "y20", "iy1;l5;nr1 x"};
        String before = Picture.data(Make.office(SETUP));
        for (String change : changes) {
            SockEmbassy office = Make.office(SETUP + " " + change);
            Expect.is(7, office.undo());
            Expect.is(before, Picture.data(office));
        }
        // The day on which an application was made comes back too: it orders the queue.
        Expect.answers(0, "nr1 nr1 a1>0 y1 a0>0 y1 w1 a1>0", x -> x.queueAt(0, 0));
        Expect.answers(1, "nr1 nr1 a1>0 y1 a0>0 y1 w1 a1>0 U U", x -> x.queueAt(0, 0));
    }

    private static void undoingTheLatest() {
        Expect.promise(60);
        Expect.sentence("Undoes the latest change that has not been undone.");
        Expect.answers(3, "y1 y2 y4 U", SockEmbassy::day);
        Expect.answers(1, "y1 y2 y4 U U", SockEmbassy::day);
        Expect.answers(0, "y1 y2 y4 U U U", SockEmbassy::day);
        Expect.answers(9, "y1 y2 y4 U U y8", SockEmbassy::day);
        Expect.answers(1, "y1 y2 y4 U U y8 U", SockEmbassy::day);
        Expect.answers(0, "y1 y2 y4 U U y8 U U", SockEmbassy::day);
        // A call that throws is no change.
        Expect.answers(1, "y1 y2 !y0 !d5 !w0 iw !x iy0 !x U", SockEmbassy::day);
    }

    private static void changesLeft() {
        Expect.promise(60);
        Expect.sentence("Returns the number of changes that can still be undone.");
        for (int changes = 1; changes <= 10; changes++) {
            Expect.answers(Math.min(changes, 8) - 1, "y1 ".repeat(changes), SockEmbassy::undo);
        }
        SockEmbassy office = Make.office("y1 y1 y1 y1 y1 y1 y1 y1 y1 y1");
        for (int left = 7; left >= 0; left--) {
            Expect.is(left, office.undo());
        }
        // Changes that have been undone are gone: after 10 changes and 2 undos, 6 are left, and a new one makes 7.
        Expect.answers(6, "y1 y1 y1 y1 y1 y1 y1 y1 y1 y1 U U q0=7", SockEmbassy::undo);
        Expect.answers(7, "y1 y1 y1 y1 y1 y1 y1 y1 y1 y1 U U q0=7 y1", SockEmbassy::undo);
        Expect.answers(7, "y1 y1 y1 y1 y1 y1 y1 y1 y1 y1 U U q0=7 y1 y1", SockEmbassy::undo);
        Expect.answers(0, "nr1 iy1;y1 x U", SockEmbassy::undo);
    }

    private static void nothingToUndo() {
        Expect.promise(60);
        Expect.sentence("Throws `IllegalStateException` if there is none");
        Expect.fails(IllegalStateException.class, "", SockEmbassy::undo);
        Expect.fails(IllegalStateException.class, "!y0 iy !x", SockEmbassy::undo);
        Expect.fails(IllegalStateException.class, "y1 U", SockEmbassy::undo);
        Expect.fails(IllegalStateException.class, "y1 y1 y1 y1 y1 y1 y1 y1 y1 U U U U U U U U", SockEmbassy::undo);
        Expect.answers(1, "y1 y1 y1 y1 y1 y1 y1 y1 y1 U U U U U U U U !U", SockEmbassy::day);
        Expect.failsOnce(IllegalStateException.class, Make.STATES + " S R", SockEmbassy::undo);
    }

    private static void saving() {
        Expect.promise(61);
        Expect.sentence("Saves a snapshot of the data, in place of an earlier snapshot.");
        String setup = Make.STATES + " b2g t12x";
        String changes = " nr1 y20 q1=4 t30o u2g e12 k3 w1 a1>4";
        Expect.is(Picture.data(Make.office(setup)), Picture.data(Make.office(setup + " S" + changes + " R")));
        Expect.is(Picture.data(Make.office(setup + changes)),
                Picture.data(Make.office(setup + " S" + changes + " S y3 R")));
        // A snapshot has the colours and sizes of its socks, also if others have had their indices since.
        Expect.answers('r', "nr1 S U ng2 R", x -> x.colourOf(0));
        Expect.answers(1, "nr1 S U ng2 R", x -> x.sizeOf(0));
        Expect.answers(1, "nr1 nr1 a1>0 y1 a0>0 S y1 w1 a1>0 R", x -> x.queueAt(0, 0));
        // It is no change.
        Expect.answers(1, "y1 y1 S", SockEmbassy::undo);
        Expect.sentence("Returns the number of socks.");
        Expect.answers(0, "", SockEmbassy::saveSnapshot);
        Expect.answers(6, Make.STATES, SockEmbassy::saveSnapshot);
        Expect.answers(14, Expect.FOURTEEN, SockEmbassy::saveSnapshot);
        Expect.answers(2, "nr1 S nr1", SockEmbassy::saveSnapshot);
    }

    private static void restoring() {
        Expect.promise(62);
        Expect.sentence("Restores the snapshot, which is kept.");
        String saved = Picture.data(Make.office(Make.STATES));
        Expect.is(saved, Picture.data(Make.office(Make.STATES + " S l5 y20 R")));
        Expect.is(saved, Picture.data(Make.office(Make.STATES + " S l5 y20 R R")));
        Expect.is(saved, Picture.data(Make.office(Make.STATES + " S R l5 nr1 R y3 w1 R")));
        // What is undone behind it, or ahead of it, is nothing to the snapshot.
        Expect.answers(3, "y1 y2 S U R", SockEmbassy::day);
        Expect.answers(1, "y1 y2 U S y4 R", SockEmbassy::day);
        Expect.sentence("Returns the number of socks.");
        Expect.answers(0, "S nr1", SockEmbassy::restoreSnapshot);
        Expect.answers(6, Make.STATES + " S nr1", SockEmbassy::restoreSnapshot);
        Expect.answers(14, Expect.FOURTEEN + "S U U", SockEmbassy::restoreSnapshot);
        Expect.answers(1, "nr1 S nr1 R nr1 nr1", SockEmbassy::restoreSnapshot);
    }

    private static void noUndoAfterwards() {
        Expect.promise(62);
        Expect.sentence("No change can be undone after the call.");
        Expect.failsOnce(IllegalStateException.class, "y1 S R", SockEmbassy::undo);
        Expect.failsOnce(IllegalStateException.class, "y1 S y1 R", SockEmbassy::undo);
        Expect.answers(0, "y1 S y1 R y1", SockEmbassy::undo);
        Expect.answers(1, "y1 S y4 y4 R y8 U", SockEmbassy::day);
    }

    private static void noSnapshot() {
        Expect.promise(62);
        Expect.sentence("Throws `IllegalStateException` if there is no snapshot");
        Expect.failsOnce(IllegalStateException.class, "", SockEmbassy::restoreSnapshot);
        Expect.failsOnce(IllegalStateException.class, Make.STATES, SockEmbassy::restoreSnapshot);
        Expect.failsOnce(IllegalStateException.class, "nr1 U iy3", SockEmbassy::restoreSnapshot);
    }
}
