import java.util.NoSuchElementException;

/** Promises 30 to 40: drawers and treaties. */
final class DrawerTests {
    private static final char[] NO_COLOURS = "\0 RGBWaosxz-\u0172\uffff".toCharArray();

    private DrawerTests() {
    }

    static void run() {
        quotas();
        bans();
        signing();
        ending();
        clauses();
        residents();
        moves();
    }

    private static void quotas() {
        Expect.promise(30);
        SockEmbassy office = Make.office(Make.STATES);
        Expect.is(0, office.setQuota(1, 9));
        Expect.is(9, office.setQuota(1, 0));
        Expect.is(3, office.setQuota(3, 1));
        Expect.is(3, office.residents(3));
        Expect.is(1, office.setQuota(3, 1));
        Expect.noDrawer((x, drawer) -> x.setQuota(drawer, 1));
        Expect.noDrawer((x, drawer) -> x.setQuota(drawer, -1));
        for (int quota : new int[] {Integer.MIN_VALUE, -1, 10, Integer.MAX_VALUE}) {
            Expect.fails(IllegalArgumentException.class, Make.STATES, x -> x.setQuota(0, quota));
        }
        Expect.promise(36);
        int[] due = {3, 0, 3, 1, 3};
        for (int drawer = 0; drawer < 5; drawer++) {
            Expect.is(due[drawer], office.quotaOf(drawer));
        }
        Expect.noDrawer((x, drawer) -> x.quotaOf(drawer));
    }

    private static void bans() {
        SockEmbassy office = Make.office(Make.STATES);
        Expect.promise(31);
        Expect.is(true, office.ban(3, 'g'));
        Expect.is(false, office.ban(3, 'g'));
        Expect.is(true, office.ban(3, 'w'));
        Expect.is(3, office.residents(3));
        Expect.noDrawer((x, drawer) -> x.ban(drawer, 'r'));
        Expect.noDrawer((x, drawer) -> x.ban(drawer, 'y'));
        Expect.promise(32);
        Expect.is(false, office.unban(2, 'g'));
        Expect.is(false, office.unban(3, 'r'));
        Expect.is(true, office.unban(3, 'g'));
        Expect.is(false, office.unban(3, 'g'));
        Expect.noDrawer((x, drawer) -> x.unban(drawer, 'r'));
        Expect.noDrawer((x, drawer) -> x.unban(drawer, 'y'));
        Expect.promise(39);
        Expect.is(true, office.isBanned(3, 'w'));
        Expect.is(false, office.isBanned(3, 'g'));
        Expect.is(false, office.isBanned(3, 'r'));
        Expect.is(false, office.isBanned(3, 'b'));
        Expect.is(false, office.isBanned(2, 'w'));
        Expect.noDrawer((x, drawer) -> x.isBanned(drawer, 'r'));
        Expect.noDrawer((x, drawer) -> x.isBanned(drawer, 'y'));
        for (char colour : NO_COLOURS) {
            Expect.promise(31);
            Expect.fails(IllegalArgumentException.class, Make.STATES, x -> x.ban(0, colour));
            Expect.promise(32);
            Expect.fails(IllegalArgumentException.class, Make.STATES, x -> x.unban(0, colour));
            Expect.promise(39);
            Expect.fails(IllegalArgumentException.class, Make.STATES, x -> x.isBanned(0, colour));
        }
        everyBan();
    }

    private static void everyBan() {
        Expect.promise(39);
        for (char banned : "rgbw".toCharArray()) {
            SockEmbassy office = Make.office("b4" + banned);
            for (char colour : "rgbw".toCharArray()) {
                Expect.is(colour == banned, office.isBanned(4, colour));
                Expect.is(false, office.isBanned(0, colour));
            }
            Expect.is(true, office.unban(4, banned));
            Expect.is(false, office.isBanned(4, banned));
        }
    }

    private static void signing() {
        Expect.promise(33);
        SockEmbassy office = new SockEmbassy();
        int treaties = 0;
        for (int first = 0; first < 5; first++) {
            for (int second = 0; second < first; second++) {
                treaties++;
                Expect.is(treaties, office.signTreaty(first, second, "osx".charAt(treaties % 3)));
            }
        }
        Expect.is(10, treaties);
        Expect.rejects(SockEmbassy.TREATY_EXISTS, 1, "t12o", x -> x.signTreaty(1, 2, 'o'));
        Expect.rejects(SockEmbassy.TREATY_EXISTS, 2, "t12o t03x", x -> x.signTreaty(2, 1, 's'));
        Expect.noDrawer((x, drawer) -> x.signTreaty(drawer, 1, 'o'));
        Expect.noDrawer((x, drawer) -> x.signTreaty(1, drawer, 'o'));
        Expect.noDrawer((x, drawer) -> x.signTreaty(drawer, drawer, 'q'));
        for (char clause : "\0 OSXrgbwy\u016f\uffff".toCharArray()) {
            Expect.fails(IllegalArgumentException.class, "t12o", x -> x.signTreaty(0, 1, clause));
            Expect.fails(IllegalArgumentException.class, "t12o", x -> x.signTreaty(1, 2, clause));
        }
        for (int drawer = 0; drawer < 5; drawer++) {
            int same = drawer;
            Expect.fails(IllegalArgumentException.class, "t12o", x -> x.signTreaty(same, same, 'o'));
        }
    }

    private static void ending() {
        Expect.promise(34);
        SockEmbassy office = Make.office("t12o t03x t34s");
        Expect.is(2, office.endTreaty(2, 1));
        Expect.is(1, office.endTreaty(3, 4));
        Expect.is('x', office.clauseOf(0, 3));
        Expect.is(0, office.endTreaty(0, 3));
        Expect.is(1, office.signTreaty(1, 2, 's'));
        Expect.fails(NoSuchElementException.class, "t12o", x -> x.endTreaty(1, 3));
        Expect.fails(NoSuchElementException.class, "t12o", x -> x.endTreaty(1, 1));
        Expect.fails(NoSuchElementException.class, "t12o e12", x -> x.endTreaty(1, 2));
        Expect.noDrawer((x, drawer) -> x.endTreaty(drawer, 1));
        Expect.noDrawer((x, drawer) -> x.endTreaty(1, drawer));
    }

    private static void clauses() {
        Expect.promise(35);
        SockEmbassy office = Make.office("t12o t03x t34s");
        Expect.is('o', office.clauseOf(1, 2));
        Expect.is('o', office.clauseOf(2, 1));
        Expect.is('x', office.clauseOf(0, 3));
        Expect.is('x', office.clauseOf(3, 0));
        Expect.is('s', office.clauseOf(4, 3));
        Expect.fails(NoSuchElementException.class, "t12o", x -> x.clauseOf(1, 3));
        Expect.fails(NoSuchElementException.class, "t12o", x -> x.clauseOf(2, 2));
        Expect.fails(NoSuchElementException.class, "t12o e21", x -> x.clauseOf(1, 2));
        Expect.noDrawer((x, drawer) -> x.clauseOf(drawer, 1));
        Expect.noDrawer((x, drawer) -> x.clauseOf(1, drawer));
    }

    private static void residents() {
        Expect.promise(37);
        SockEmbassy office = Make.office(Make.STATES + " a0>2 d2");
        int[] due = {0, 0, 2, 3, 0};
        for (int drawer = 0; drawer < 5; drawer++) {
            Expect.is(due[drawer], office.residents(drawer));
        }
        Expect.noDrawer((x, drawer) -> x.residents(drawer));
        Expect.promise(38);
        Expect.is(0, office.residentAt(2, 0));
        Expect.is(1, office.residentAt(2, 1));
        for (int position = 0; position < 3; position++) {
            Expect.is(3 + position, office.residentAt(3, position));
        }
        for (int position : new int[] {Integer.MIN_VALUE, -1, 3, 4, 14, Integer.MAX_VALUE}) {
            Expect.fails(NoSuchElementException.class, Make.STATES, x -> x.residentAt(3, position));
        }
        Expect.fails(NoSuchElementException.class, Make.STATES, x -> x.residentAt(1, 0));
        Expect.noDrawer((x, drawer) -> x.residentAt(drawer, 0));
        Expect.noDrawer((x, drawer) -> x.residentAt(drawer, -1));
    }

    private static void moves() {
        Expect.promise(40);
        SockEmbassy office = Make.office(Make.STATES + " t30o t32x t34s b4r q2=0");
        boolean[] due = {true, false, false, false, false};
        for (int drawer = 0; drawer < 5; drawer++) {
            for (int sock = 0; sock < 5; sock++) {
                Expect.is(false, office.canMove(sock, drawer));
            }
            Expect.is(due[drawer], office.canMove(5, drawer));
        }
        office.setQuota(2, 1);
        Expect.is(true, office.canMove(5, 2));
        office.unban(4, 'r');
        Expect.is(true, office.canMove(5, 4));
        Expect.is(3, office.drawerOf(5));
        // Telling is no rejection.
        Expect.throwing(NoSuchElementException.class, office, SockEmbassy::rejectionReason);
        String two = "nr1 nr2 a0>0 a1>1 d0 d1 t01x";
        Expect.is(false, Make.office(two).canMove(0, 1));
        Expect.is(true, Make.office(two + " l1").canMove(0, 1));
        Expect.noSock((x, sock) -> x.canMove(sock, 1));
        Expect.noDrawer((x, drawer) -> x.canMove(5, drawer));
        Expect.noDrawer((x, drawer) -> x.canMove(0, drawer));
    }
}
