import java.util.NoSuchElementException;

/** Promises 30 to 32 and 36 to 40: drawers. */
final class DrawerTests {
    private static final String LETTERS =
            "- `colour`: the colour: 'r' for red, 'g' for green, 'b' for blue, 'w' for white";
    private static final char[] NO_COLOURS = "\0 acefhqsvxRGBWo-\u0172\uffff".toCharArray();

    // As many residents of one drawer as there can be: no quota is greater than 9.
    private static final String NINE =
            Expect.FOURTEEN + "q4=9 a13>4 a12>4 a11>4 a10>4 a9>4 a8>4 a7>4 a6>4 a5>4 d4 a4>4 d4";

    private DrawerTests() {
    }

    static void run() {
        quotas();
        refusedQuotas();
        bans();
        endsOfBans();
        quotaOf();
        residents();
        positions();
        banned();
        moves();
    }

    private static void quotas() {
        Expect.promise(30);
        Expect.sentence("Sets the quota of a drawer.");
        Expect.answers(7, Make.STATES + " q2=7", x -> x.quotaOf(2));
        Expect.answers(3, Make.STATES + " q2=7", x -> x.quotaOf(3));
        Expect.answers(0, Make.STATES + " q2=0", x -> x.wouldAdmit(2));
        Expect.answers(1, Make.STATES + " q2=1", x -> x.wouldAdmit(2));
        Expect.sentence("Residents stay, even if there are more of them.");
        Expect.answers(3, Make.STATES + " q3=2", x -> x.residents(3));
        Expect.answers(3, Make.STATES + " q3=0", x -> x.residents(3));
        Expect.answers(3, Make.STATES + " q3=0 d3 y10", x -> x.residents(3));
        Expect.sentence("- `quota`: the new quota, 0 to 9");
        for (int quota = 0; quota <= 9; quota++) {
            int some = quota;
            Expect.answers(3, "", x -> x.setQuota(4, some));
            Expect.answers(quota, "q4=" + quota, x -> x.quotaOf(4));
        }
        Expect.sentence("Returns the previous quota.");
        Expect.answers(3, "", x -> x.setQuota(0, 3));
        Expect.answers(0, "q0=0", x -> x.setQuota(0, 9));
        Expect.answers(9, "q0=9", x -> x.setQuota(0, 0));
        Expect.answers(9, "q0=9", x -> x.setQuota(0, 9));
        Expect.answers(3, "q0=9", x -> x.setQuota(1, 1));
    }

    private static void refusedQuotas() {
        Expect.promise(30);
        Expect.drawers((x, drawer) -> x.setQuota(drawer, 1));
        Expect.outside(Make.STATES, (x, drawer) -> x.setQuota(drawer, -1), -1, 5);
        Expect.sentence("Throws `IllegalArgumentException` if quota is out of range");
        for (int quota : new int[] {Integer.MIN_VALUE, -1, 10, 11, Integer.MAX_VALUE}) {
            Expect.fails(IllegalArgumentException.class, Make.STATES, x -> x.setQuota(0, quota));
            Expect.fails(IllegalArgumentException.class, Make.STATES, x -> x.setQuota(4, quota));
        }
    }

    private static void bans() {
        Expect.promise(31);
        Expect.sentence("Bans a colour from a drawer.");
        Expect.answers(0, Make.STATES + " b2g", x -> x.wouldAdmit(2));
        Expect.answers(1, Make.STATES + " b2r b2b b2w b1g", x -> x.wouldAdmit(2));
        Expect.answers(true, Make.STATES + " b2g", x -> x.isBanned(2, 'g'));
        Expect.sentence("Residents stay.");
        Expect.answers(3, Make.STATES + " b3w b3g b3r", x -> x.residents(3));
        Expect.answers(3, Make.STATES + " b3w b3g b3r d3 y10", x -> x.residents(3));
        Expect.sentence(LETTERS);
        for (char colour : "rgbw".toCharArray()) {
            Expect.answers(true, "", x -> x.ban(4, colour));
        }
        Expect.sentence("Returns whether it was not banned before.");
        Expect.answers(false, "b3g", x -> x.ban(3, 'g'));
        Expect.answers(false, "b3g b3g", x -> x.ban(3, 'g'));
        Expect.answers(true, "b3g", x -> x.ban(3, 'w'));
        Expect.answers(true, "b3g", x -> x.ban(2, 'g'));
        Expect.answers(true, "b3g u3g", x -> x.ban(3, 'g'));
        Expect.drawers((x, drawer) -> x.ban(drawer, 'r'));
        Expect.outside(Make.STATES, (x, drawer) -> x.ban(drawer, 'y'), -1, 5);
        Expect.sentence("Throws `IllegalArgumentException` if there is no such colour");
        for (char colour : NO_COLOURS) {
            Expect.fails(IllegalArgumentException.class, Make.STATES, x -> x.ban(0, colour));
        }
    }

    private static void endsOfBans() {
        Expect.promise(32);
        Expect.sentence("Ends the ban of a colour from a drawer.");
        Expect.answers(1, Make.STATES + " b2g u2g", x -> x.wouldAdmit(2));
        Expect.answers(0, Make.STATES + " b2g u2r u2b u2w u1g", x -> x.wouldAdmit(2));
        Expect.answers(false, Make.STATES + " b2g u2g", x -> x.isBanned(2, 'g'));
        Expect.answers(false, Make.STATES + " b2g b2g u2g", x -> x.isBanned(2, 'g'));
        Expect.sentence(LETTERS);
        for (char colour : "rgbw".toCharArray()) {
            Expect.answers(true, "b4r b4g b4b b4w", x -> x.unban(4, colour));
        }
        Expect.sentence("Returns whether it was banned before.");
        Expect.answers(false, "", x -> x.unban(3, 'g'));
        Expect.answers(true, "b3g", x -> x.unban(3, 'g'));
        Expect.answers(false, "b3g", x -> x.unban(3, 'r'));
        Expect.answers(false, "b3g", x -> x.unban(2, 'g'));
        Expect.answers(false, "b3g u3g", x -> x.unban(3, 'g'));
        Expect.drawers((x, drawer) -> x.unban(drawer, 'r'));
        Expect.outside(Make.STATES, (x, drawer) -> x.unban(drawer, 'y'), -1, 5);
        Expect.sentence("Throws `IllegalArgumentException` if there is no such colour");
        for (char colour : NO_COLOURS) {
            Expect.fails(IllegalArgumentException.class, Make.STATES, x -> x.unban(0, colour));
        }
    }

    private static void quotaOf() {
        Expect.promise(36);
        Expect.sentence("Returns the quota of a drawer.", "Returns the quota.");
        int[] due = {0, 9, 3, 1, 3};
        SockEmbassy office = Make.office("q0=0 q1=9 q3=1");
        for (int drawer = 0; drawer < 5; drawer++) {
            Expect.is(due[drawer], office.quotaOf(drawer));
        }
        Expect.answers(0, "q4=9 q4=0", x -> x.quotaOf(4));
        Expect.drawers(SockEmbassy::quotaOf);
    }

    private static void residents() {
        Expect.promise(37);
        Expect.sentence("Returns the number of residents of a drawer.", "Returns the number of residents.");
        int[] due = {0, 0, 2, 3, 0};
        for (int drawer = 0; drawer < 5; drawer++) {
            int some = drawer;
            Expect.answers(due[drawer], Make.STATES + " a0>2 d2", x -> x.residents(some));
            Expect.answers(0, "", x -> x.residents(some));
        }
        Expect.answers(9, NINE, x -> x.residents(4));
        Expect.drawers(SockEmbassy::residents);
    }

    private static void positions() {
        Expect.promise(38);
        Expect.sentence("Returns a resident of a drawer.", "Returns the index of the sock.");
        Expect.answers(5, Make.STATES + " t30o m5>0", x -> x.residentAt(0, 0));
        Expect.answers(1, Make.STATES + " d2", x -> x.residentAt(2, 0));
        Expect.sentence("Residents are ordered by index.");
        Expect.answers(0, "nr1 nr1 a1>2 d2 a0>2 d2", x -> x.residentAt(2, 0));
        Expect.answers(1, "nr1 nr1 a1>2 d2 a0>2 d2", x -> x.residentAt(2, 1));
        Expect.answers(5, Make.STATES + " t30o m5>0 a0>0 d0", x -> x.residentAt(0, 1));
        Expect.sentence("- `position`: the position, from 0");
        for (int position = 0; position < 9; position++) {
            int some = position;
            Expect.answers(5 + position, NINE, x -> x.residentAt(4, some));
        }
        Expect.drawers((x, drawer) -> x.residentAt(drawer, 0));
        Expect.outside(Make.STATES, (x, drawer) -> x.residentAt(drawer, -1), -1, 5);
        Expect.sentence("Throws `NoSuchElementException` if there is no such position");
        for (int position : new int[] {Integer.MIN_VALUE, -1, 3, 4, 5, 14, Integer.MAX_VALUE}) {
            Expect.fails(NoSuchElementException.class, Make.STATES, x -> x.residentAt(3, position));
        }
        for (int drawer : new int[] {0, 1, 2, 4}) {
            Expect.fails(NoSuchElementException.class, Make.STATES, x -> x.residentAt(drawer, 0));
        }
        Expect.fails(NoSuchElementException.class, NINE, x -> x.residentAt(4, 9));
        Expect.fails(NoSuchElementException.class, "", x -> x.residentAt(0, 0));
    }

    private static void banned() {
        Expect.promise(39);
        Expect.sentence("Tells whether a colour is banned from a drawer.", "Returns whether it is banned.");
        for (char banned : "rgbw".toCharArray()) {
            for (char colour : "rgbw".toCharArray()) {
                Expect.answers(colour == banned, "b4" + banned, x -> x.isBanned(4, colour));
                Expect.answers(false, "b4" + banned, x -> x.isBanned(3, colour));
                Expect.answers(false, "b4" + banned + " u4" + banned, x -> x.isBanned(4, colour));
            }
        }
        Expect.sentence(LETTERS);
        for (char colour : "rgbw".toCharArray()) {
            Expect.answers(false, "", x -> x.isBanned(0, colour));
            Expect.answers(true, "b0r b0g b0b b0w", x -> x.isBanned(0, colour));
        }
        Expect.drawers((x, drawer) -> x.isBanned(drawer, 'r'));
        Expect.outside(Make.STATES, (x, drawer) -> x.isBanned(drawer, 'y'), -1, 5);
        Expect.sentence("Throws `IllegalArgumentException` if there is no such colour");
        for (char colour : NO_COLOURS) {
            Expect.fails(IllegalArgumentException.class, Make.STATES, x -> x.isBanned(0, colour));
        }
    }

    private static void moves() {
        Expect.promise(40);
        Expect.sentence("Tells whether move would not be rejected for a sock and a drawer now.");
        String setup = Make.STATES + " t30o t32x t34s b4r q2=0";
        String[] due = {"fffff", "fffff", "fffff", "fffff", "fffff", "tffff"};
        for (int sock = 0; sock < 6; sock++) {
            for (int drawer = 0; drawer < 5; drawer++) {
                int some = sock;
                int other = drawer;
                Expect.answers(due[sock].charAt(drawer) == 't', setup, x -> x.canMove(some, other));
            }
        }
        Expect.sentence("Returns whether the sock can move.");
        Expect.answers(true, setup + " q2=1", x -> x.canMove(5, 2));
        Expect.answers(true, setup + " u4r", x -> x.canMove(5, 4));
        Expect.answers(true, setup + " k4", x -> x.canMove(3, 0));
        Expect.answers(false, setup + " e03", x -> x.canMove(5, 0));
        String two = "nr1 nr2 a0>0 a1>1 d0 d1 t01x";
        Expect.answers(false, two, x -> x.canMove(0, 1));
        Expect.answers(true, two + " l1", x -> x.canMove(0, 1));
        // To ask is no rejection, and moves nothing.
        Expect.onlyTells(setup, x -> x.canMove(5, 0));
        Expect.onlyTells(setup, x -> x.canMove(3, 0));
        Expect.drawers((x, drawer) -> x.canMove(5, drawer));
        Expect.everyDrawer((x, drawer) -> x.canMove(0, drawer));
        Expect.everySock((x, sock) -> x.canMove(sock, 1));
    }
}
