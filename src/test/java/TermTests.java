import java.util.NoSuchElementException;

/** The terms: socks, states, drawers, decisions, pairs, treaties and days. */
final class TermTests {
    private static final String NO_ELEMENT = NoSuchElementException.class.getName();
    private static final String NO_INDEX = IndexOutOfBoundsException.class.getName();
    // Two residents of drawer 0, to day 20 and to day 10, and none elsewhere.
    private static final String TWO = "nr1 nr2 a0>0 a1>0 d0 r0+9 r0+1";

    private TermTests() {
    }

    static void run() {
        socks();
        matching();
        states();
        levels();
        drawers();
        order();
        admission();
        refusal();
        pairs();
        treaties();
        clauses();
        exchange();
        days();
        expulsion();
        lateSeparation();
    }

    private static void socks() {
        Expect.term("There are at most 14 socks, numbered from 0 in the order in which they are added; they are never");
        SockEmbassy office = new SockEmbassy();
        for (int sock = 0; sock < 14; sock++) {
            Expect.is(sock, office.addSock("rgbw".charAt(sock % 4), 1 + sock % 9));
        }
        for (int sock = 0; sock < 14; sock++) {
            Expect.is("rgbw".charAt(sock % 4), office.colourOf(sock));
            Expect.is(1 + sock % 9, office.sizeOf(sock));
        }
        Expect.rejects(SockEmbassy.SOCK_LIMIT, 14, Expect.FOURTEEN, x -> x.addSock('r', 1));
        Expect.answers(14, Expect.FOURTEEN + "a0>0 w0 a1>1 d1 l1 a2>2 d2 y11", SockEmbassy::sockCount);
        Expect.rejects(SockEmbassy.SOCK_LIMIT, 14, Expect.FOURTEEN + "a2>2 d2 y11", x -> x.addSock('r', 1));
        Expect.term("A sock has a colour and a size.");
        for (int code = 0; code < 36; code++) {
            char colour = "rgbw".charAt(code % 4);
            int size = 1 + code / 4;
            Expect.answers(colour, "n" + colour + size, x -> x.colourOf(0));
            Expect.answers(size, "n" + colour + size, x -> x.sizeOf(0));
        }
    }

    private static void matching() {
        Expect.term("Two different socks match if they have the same size, and the same colour or at least one of");
        String[] due = {"tfft", "ftft", "fftt", "tttt"};
        for (int first = 0; first < 4; first++) {
            for (int second = 0; second < 4; second++) {
                String colours = "n" + "rgbw".charAt(first) + "%d n" + "rgbw".charAt(second) + "%d";
                boolean match = due[first].charAt(second) == 't';
                Expect.answers(match, String.format(colours, 1, 1), x -> x.matches(0, 1));
                Expect.answers(match, String.format(colours, 9, 9), x -> x.matches(0, 1));
                Expect.answers(false, String.format(colours, 4, 5), x -> x.matches(0, 1));
                Expect.answers(false, String.format(colours, 9, 8), x -> x.matches(0, 1));
            }
            Expect.answers(false, "n" + "rgbw".charAt(first) + "5", x -> x.matches(0, 0));
        }
    }

    private static void states() {
        Expect.term("A sock is away, pending, refused or a resident.");
        String[] lives = {"", "a0>2", "a0>2 w0", "q2=0 a0>2 d2", "q2=0 a0>2 d2 p0", "q2=0 a0>2 d2 w0", "a0>2 d2",
            "a0>2 d2 l0", "a0>2 d2 y10", "a0>2 d2 y11", "a0>2 d2 t12s m0>1", "a0>2 d2 y11 a0>3"};
        String due = "apaxparararp";
        for (int i = 0; i < lives.length; i++) {
            SockEmbassy office = Make.office("nr1 " + lives[i]);
            Expect.is(due.charAt(i) == 'a', office.isAway(0));
            Expect.is(due.charAt(i) == 'p', office.isPending(0));
            Expect.is(due.charAt(i) == 'x', office.isRefused(0));
            Expect.is(due.charAt(i) == 'r', office.isResident(0));
        }
    }

    private static void levels() {
        String refuse = "nr1 nr1 q4=0 a0>4 d4";
        Expect.term("A pending sock has an application to one drawer, with a level from 1 to 3 and the day on which");
        Expect.answers(1, "nr1 a0>4", x -> x.levelOf(0));
        Expect.answers(2, refuse + " p0", x -> x.levelOf(0));
        Expect.answers(3, refuse + " p0 d4 p0", x -> x.levelOf(0));
        Expect.rejects(SockEmbassy.FINAL_LEVEL, 4, refuse + " p0 d4 p0 d4", x -> x.appeal(0));
        Expect.rejects(SockEmbassy.NOT_AWAY, 4, "nr1 a0>4", x -> x.apply(0, 3));
        Expect.answers(4, "nr1 a0>4 !a0>3", x -> x.drawerOf(0));
        Expect.answers(0, "nr1 nr1 a0>4 y1 a1>4 !a0>4", x -> x.queueAt(4, 0));
        Expect.term("A refused sock has an application to one drawer that was refused, with its level.");
        Expect.answers(1, refuse, x -> x.levelOf(0));
        Expect.answers(2, refuse + " p0 d4", x -> x.levelOf(0));
        Expect.answers(3, refuse + " p0 d4 p0 d4", x -> x.levelOf(0));
        Expect.answers(4, refuse, x -> x.drawerOf(0));
        Expect.rejects(SockEmbassy.NOT_AWAY, 4, refuse, x -> x.apply(0, 4));
        Expect.term("A resident lives in one drawer and has a visa with a last day.");
        Expect.answers(2, "nr1 a0>2 d2", x -> x.drawerOf(0));
        Expect.answers(10, "nr1 a0>2 d2", x -> x.visaDay(0));
        Expect.answers(NO_ELEMENT, "nr1 a0>2 d2", x -> x.levelOf(0));
        Expect.answers(0, "nr1 a0>2 d2 t12o m0>1", x -> x.residents(2));
        Expect.rejects(SockEmbassy.NOT_AWAY, 2, "nr1 a0>2 d2", x -> x.apply(0, 2));
    }

    private static void drawers() {
        Expect.term("There are 5 drawers, numbered from 0 to 4.");
        Expect.answers(NO_INDEX, "", x -> x.decide(-1));
        Expect.answers(0, "", x -> x.decide(0));
        Expect.answers(0, "", x -> x.decide(4));
        Expect.answers(NO_INDEX, "", x -> x.decide(5));
        Expect.answers(4, "", x -> x.drawerByResidents(4));
        Expect.answers(NO_ELEMENT, "", x -> x.drawerByResidents(5));
        Expect.term("Each has a quota, which is 3 at first, and may ban colours; no colours are banned at first.");
        for (int drawer = 0; drawer < 5; drawer++) {
            int some = drawer;
            Expect.answers(3, "", x -> x.quotaOf(some));
            String four = "nr1 nr1 nr1 nr1 a0>D a1>D a2>D a3>D".replace("D", String.valueOf(drawer));
            Expect.answers(3, four, x -> x.decide(some));
            for (char colour : "rgbw".toCharArray()) {
                Expect.answers(false, "", x -> x.isBanned(some, colour));
                Expect.answers(true, "", x -> x.ban(some, colour));
                Expect.answers(0, "n" + colour + "1 a0>" + drawer + " b" + drawer + colour, x -> x.decide(some));
            }
        }
    }

    private static void order() {
        Expect.term("The applications to a drawer are decided in the following order: those of higher levels first;");
        // One place. Sock 3 has the highest level, but the latest day and the highest index.
        String waiting = "nr1 nr1 nr1 nr1 q0=0 a3>0 d0 ";
        onePlace(3, waiting + "a0>0 y1 p3");
        onePlace(3, waiting + "p3 d0 a0>0 a1>0 d0 p0 p1 y1 p3");
        // Of the same level, sock 2 is of an earlier day.
        onePlace(2, waiting + "w3 a2>0 y1 a1>0 a0>0 a3>0");
        onePlace(3, waiting + "a0>0 a1>0 d0 p3 y1 p0 p1");
        // Of the same day, sock 1 has the lowest index.
        onePlace(1, waiting + "w3 a3>0 a2>0 a1>0");
        onePlace(0, waiting + "w3 a3>0 a2>0 a1>0 w2 a2>0 a0>0");
    }

    private static void onePlace(int due, String setup) {
        Expect.answers(due, setup + " q0=1", x -> x.queueAt(0, 0));
        SockEmbassy office = Make.office(setup + " q0=1");
        Expect.is(1, office.wouldAdmit(0));
        Expect.is(1, office.decide(0));
        Expect.is(due, office.residentAt(0, 0));
    }

    private static void admission() {
        Expect.term("A sock becomes a resident if the drawer has fewer residents than its quota says at that");
        for (int quota = 0; quota <= 9; quota++) {
            String setup = Expect.FOURTEEN + "q1=9 q0=" + quota + " a0>0 a1>0 a2>0 a3>0 a4>0 a5>0 a6>0 a7>0 a8>0 a9>0";
            Expect.answers(quota, setup, x -> x.decide(0));
            Expect.answers(quota, setup, x -> x.wouldAdmit(0));
            Expect.answers(quota, setup + " d0", x -> x.residents(0));
        }
        // The quota of the moment: one more, and one fewer, than there are residents.
        String three = "nr1 nr1 nr1 ng1 a0>2 a1>2 a2>2 d2 a3>2";
        Expect.answers(0, three, x -> x.decide(2));
        Expect.answers(1, three + " q2=4", x -> x.decide(2));
        Expect.answers(0, three + " q2=2", x -> x.decide(2));
        Expect.answers(0, three + " q2=2 l0", x -> x.decide(2));
        Expect.answers(1, three + " q2=2 l0 l1", x -> x.decide(2));
        Expect.answers(0, three + " q2=4 b2g", x -> x.decide(2));
        Expect.answers(1, three + " q2=4 b2r b2b b2w b1g", x -> x.decide(2));
        // A sock that is banned takes no place.
        Expect.answers(1, "ng1 nr1 q2=1 b2g a0>2 a1>2", x -> x.decide(2));
        Expect.answers(10, "nr1 a0>2 d2", x -> x.visaDay(0));
        Expect.answers(17, "nr1 a0>2 y7 d2", x -> x.visaDay(0));
        Expect.answers(31, "nr1 a0>2 d2 y20 a0>2 y1 d2", x -> x.visaDay(0));
    }

    private static void refusal() {
        Expect.term("Otherwise the sock is refused, and its application keeps its level.");
        for (String why : new String[] {"q3=0", "b3r"}) {
            String refuse = "nr1 " + why + " a0>3 d3";
            Expect.answers(true, refuse, x -> x.isRefused(0));
            Expect.answers(1, refuse, x -> x.levelOf(0));
            Expect.answers(2, refuse + " p0 d3", x -> x.levelOf(0));
            Expect.answers(3, refuse + " p0 d3 p0 d3", x -> x.levelOf(0));
            Expect.answers(3, refuse, x -> x.drawerOf(0));
        }
    }

    private static void pairs() {
        String four = "nr1 nr1 nw1 nr2 a0>0 a1>0 a2>0 d0 q0=9 a3>0 d0";
        Expect.term("Two residents of one drawer that match can be a pair.");
        Expect.answers(1, four, x -> x.pair(0, 1));
        Expect.answers(1, four, x -> x.pair(2, 1));
        Expect.rejects(SockEmbassy.NO_MATCH, 2, four, x -> x.pair(0, 3));
        Expect.rejects(SockEmbassy.OTHER_DRAWER, 1, four + " t01o m1>1", x -> x.pair(0, 1));
        Expect.rejects(SockEmbassy.NOT_RESIDENT, 1, four + " l1", x -> x.pair(0, 1));
        Expect.rejects(SockEmbassy.NOT_RESIDENT, 0, "nr1 nr1 a0>0 a1>0", x -> x.pair(0, 1));
        Expect.term("Each sock is in at most one pair.");
        Expect.rejects(SockEmbassy.PAIRED, 1, four + " j0&1", x -> x.pair(0, 2));
        Expect.rejects(SockEmbassy.PAIRED, 0, four + " j0&1", x -> x.pair(2, 1));
        Expect.answers(1, four + " j0&1 k1", x -> x.pair(0, 2));
        Expect.term("Nobody who is paired is expelled.");
        Expect.answers(2, four + " j0&1", x -> x.passDays(11));
        Expect.answers(2, four + " j0&1", x -> x.wouldExpel(20));
        Expect.answers(true, four + " j0&1 y20 y20", x -> x.isResident(0) && x.isResident(1));
        Expect.answers(2, four + " j0&1 y20 y20", SockEmbassy::expelledCount);
    }

    private static void treaties() {
        Expect.term("There is at most one treaty between two drawers.");
        Expect.rejects(SockEmbassy.TREATY_EXISTS, 1, "t03o", x -> x.signTreaty(0, 3, 's'));
        Expect.rejects(SockEmbassy.TREATY_EXISTS, 1, "t03o", x -> x.signTreaty(3, 0, 's'));
        Expect.answers('o', "t03o !t30s", x -> x.clauseOf(3, 0));
        Expect.answers(1, "t03o e30", x -> x.signTreaty(0, 3, 's'));
        Expect.answers(0, "t03o", x -> x.endTreaty(0, 3));
        Expect.answers(2, "t03o", x -> x.signTreaty(0, 4, 's'));
        Expect.term("Each treaty has a clause, which says whether and how a resident may move from one of the");
        for (char clause : "osx".toCharArray()) {
            String treaty = TWO + " t02" + clause;
            Expect.answers(clause, treaty, x -> x.clauseOf(0, 2));
            Expect.answers(clause, treaty, x -> x.clauseOf(2, 0));
            // Both ways, and to no other drawer.
            Expect.answers(true, treaty, x -> x.canMove(1, 2));
            Expect.answers(true, treaty + " m1>2 l0", x -> x.canMove(1, 0));
            Expect.answers(false, treaty, x -> x.canMove(1, 1));
            Expect.answers(false, treaty, x -> x.canMove(1, 0));
        }
    }

    private static void clauses() {
        Expect.term("With the open clause, it may move and keeps its visa.");
        Expect.answers(20, TWO + " t20o", x -> x.move(0, 2));
        Expect.answers(10, TWO + " t20o", x -> x.move(1, 2));
        Expect.answers(10, TWO + " t20o y10", x -> x.move(1, 2));
        Expect.answers(20, TWO + " t20o m0>2", x -> x.visaDay(0));
        Expect.answers(20, TWO + " t20o m0>2", x -> x.move(0, 0));
        Expect.term("With the short clause, it may move, and the last day of its visa becomes 3 days after the");
        Expect.answers(3, TWO + " t20s", x -> x.move(0, 2));
        Expect.answers(3, TWO + " t20s", x -> x.move(1, 2));
        Expect.answers(3, TWO + " t20s m1>2", x -> x.visaDay(1));
        Expect.answers(9, TWO + " t20s y6", x -> x.move(1, 2));
        Expect.answers(10, TWO + " t20s y7", x -> x.move(1, 2));
        Expect.answers(10, TWO + " t20s y8", x -> x.move(1, 2));
        Expect.answers(10, TWO + " t20s y10", x -> x.move(1, 2));
        Expect.answers(20, TWO + " t20s y20", x -> x.move(0, 2));
        Expect.answers(3, TWO + " t20s m0>2", x -> x.move(0, 0));
        Expect.answers(5, TWO + " t20s y2 m0>2 y1", x -> x.move(0, 0));
    }

    private static void exchange() {
        Expect.term("With the exchange clause, it may move only if the drawer to which it moves has fewer residents");
        // Drawer 0 has three residents, drawer 1 none at first.
        String three = "nr1 nr2 nr3 nr4 nr5 nr6 a0>0 a1>0 a2>0 d0 q1=9 t01x ";
        Expect.answers(10, three, x -> x.move(0, 1));
        Expect.answers(10, three + "a3>1 a4>1 d1", x -> x.move(0, 1));
        Expect.rejects(SockEmbassy.CLAUSE, 3, three + "a3>1 a4>1 a5>1 d1", x -> x.move(0, 1));
        Expect.rejects(SockEmbassy.CLAUSE, 2, three + "a3>1 a4>1 a5>1 d1 l1", x -> x.move(0, 1));
        Expect.answers(10, three + "a3>1 a4>1 a5>1 d1 l1", x -> x.move(3, 0));
        Expect.answers(10, three + "m0>1 l1 l2", x -> x.move(0, 0));
        Expect.rejects(SockEmbassy.CLAUSE, 1, three + "m0>1 l1", x -> x.move(0, 0));
        Expect.answers(19, three + "r0+9", x -> x.move(0, 1));
        Expect.answers(10, three + "y10", x -> x.move(0, 1));
    }

    private static void days() {
        Expect.term("The day is 0 at first.");
        Expect.answers(0, "", SockEmbassy::day);
        Expect.answers(0, Make.STATES, SockEmbassy::day);
        Expect.answers(10, "nr1 a0>0 d0", x -> x.visaDay(0));
        Expect.term("When a day passes, the day increases by 1.");
        Expect.answers(1, "y1", SockEmbassy::day);
        Expect.answers(2, "y1 y1", SockEmbassy::day);
        Expect.answers(20, "y20", SockEmbassy::day);
        Expect.answers(40, "y20 y20", SockEmbassy::day);
        Expect.answers(21, "iy1;y20 x", SockEmbassy::day);
    }

    private static void expulsion() {
        Expect.term("After that, every resident that is not paired, and whose visa has a last day before the");
        Expect.answers(0, TWO + " y9", x -> x.passDays(1));
        Expect.answers(1, TWO + " y10", x -> x.passDays(1));
        Expect.answers(true, TWO + " y10", x -> x.isResident(1));
        Expect.answers(false, TWO + " y11", x -> x.isResident(1));
        Expect.answers(true, TWO + " y11", x -> x.isAway(1));
        Expect.answers(true, TWO + " y20", x -> x.isResident(0));
        Expect.answers(true, TWO + " y20 y1", x -> x.isAway(0));
        Expect.answers(0, TWO + " y20 y1", x -> x.residents(0));
        Expect.answers(1, TWO + " y11", x -> x.apply(1, 0));
    }

    private static void lateSeparation() {
        Expect.term("When a pair is separated after the last day of a visa, the sock is expelled when the next day");
        // Of the pair, sock 3 has a visa to day 20, sock 4 one to day 10.
        String pair = Make.STATES + " r3+9 r3+1 y11";
        Expect.answers(true, pair + " k3", x -> x.isResident(4));
        Expect.answers(1, pair + " k3", x -> x.wouldExpel(1));
        Expect.answers(1, pair + " k3", x -> x.passDays(1));
        Expect.answers(true, pair + " k3 y1", x -> x.isAway(4));
        Expect.answers(true, pair + " k3 y1", x -> x.isResident(3));
        Expect.answers(2, pair + " y10 k3", x -> x.passDays(1));
        // It stays if it is paired again, or its visa is renewed, on the same day.
        Expect.answers(0, pair + " k3 j4&3", x -> x.passDays(1));
        Expect.answers(0, pair + " k3 r4+2", x -> x.passDays(1));
        Expect.answers(1, pair + " k3 r4+1", x -> x.passDays(2));
        // On the last day itself the visa is valid.
        Expect.answers(0, Make.STATES + " y9 k3", x -> x.passDays(1));
    }
}
