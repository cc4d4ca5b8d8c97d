/** The constants of the terms: each reason, at its edge, with its detail. */
final class ReasonTests {
    // A resident in each of drawers 0 and 1, and two more in 1; socks 4 to 6 are away.
    private static final String ROOMS = "nr1 nr2 nr3 nr4 nr5 nr6 nr7 a0>0 a1>1 a2>1 a3>1 d0 d1";

    private ReasonTests() {
    }

    static void run() {
        socks();
        applications();
        visas();
        pairs();
        moves();
        treaties();
        commands();
    }

    private static void constant(String name, int due, int number) {
        Expect.term("`" + name + " = " + due + "`: Reason:");
        Expect.is(due, number);
    }

    private static void socks() {
        constant("SOCK_LIMIT", 1, SockEmbassy.SOCK_LIMIT);
        Expect.answers(12, "nr1 ".repeat(12), x -> x.addSock('r', 1));
        Expect.answers(13, "nr1 ".repeat(13), x -> x.addSock('r', 1));
        Expect.rejects(1, 14, Expect.FOURTEEN, x -> x.addSock('r', 1));
        Expect.rejects(1, 14, Expect.FOURTEEN + "y20 a3>1 d1", x -> x.addSock('w', 9));
        Expect.answers(13, Expect.FOURTEEN + "U", x -> x.addSock('r', 1));
    }

    private static void applications() {
        constant("NOT_AWAY", 2, SockEmbassy.NOT_AWAY);
        Expect.answers(1, "nr1", x -> x.apply(0, 3));
        for (int drawer = 0; drawer < 5; drawer++) {
            String apply = "nr1 q" + drawer + "=0 a0>" + drawer + " ";
            Expect.rejects(2, drawer, apply, x -> x.apply(0, 3));
            Expect.rejects(2, drawer, apply + "d" + drawer, x -> x.apply(0, 3));
            Expect.rejects(2, drawer, "nr1 a0>" + drawer + " d" + drawer, x -> x.apply(0, 3));
        }
        constant("NO_APPLICATION", 3, SockEmbassy.NO_APPLICATION);
        Expect.answers(2, Make.STATES, x -> x.withdraw(1));
        Expect.answers(1, Make.STATES, x -> x.withdraw(2));
        Expect.rejects(3, 0, Make.STATES, x -> x.withdraw(0));
        Expect.rejects(3, 5, Make.STATES, x -> x.withdraw(5));
        Expect.rejects(3, 13, Expect.FOURTEEN, x -> x.withdraw(13));
        constant("NOT_REFUSED", 4, SockEmbassy.NOT_REFUSED);
        Expect.answers(2, Make.STATES, x -> x.appeal(2));
        for (int sock : new int[] {0, 1, 3, 5}) {
            Expect.rejects(4, sock, Make.STATES, x -> x.appeal(sock));
        }
        Expect.rejects(4, 13, Expect.FOURTEEN, x -> x.appeal(13));
        constant("FINAL_LEVEL", 5, SockEmbassy.FINAL_LEVEL);
        for (int drawer = 0; drawer < 5; drawer++) {
            String refuse = "nr1 nr1 q" + drawer + "=0 a1>" + drawer + " d" + drawer;
            String again = " p1 d" + drawer;
            Expect.answers(2, refuse, x -> x.appeal(1));
            Expect.answers(3, refuse + again, x -> x.appeal(1));
            Expect.rejects(5, drawer, refuse + again + again, x -> x.appeal(1));
        }
    }

    private static void visas() {
        constant("NOT_RESIDENT", 6, SockEmbassy.NOT_RESIDENT);
        for (int sock = 0; sock < 3; sock++) {
            int some = sock;
            Expect.rejects(6, sock, Make.STATES, x -> x.renew(some, 1));
            Expect.rejects(6, sock, Make.STATES, x -> x.leave(some));
            Expect.rejects(6, sock, Make.STATES, x -> x.move(some, 0));
            Expect.rejects(6, sock, Make.STATES, x -> x.pair(some, 5));
            Expect.rejects(6, sock, Make.STATES, x -> x.pair(5, some));
        }
        Expect.answers(10, Make.STATES, x -> x.leave(5));
        Expect.answers(0, Make.STATES + " y10", x -> x.leave(5));
        Expect.rejects(6, 5, Make.STATES + " y11", x -> x.leave(5));
        constant("VISA_LIMIT", 7, SockEmbassy.VISA_LIMIT);
        Expect.answers(20, Make.STATES + " r5+2", x -> x.renew(5, 8));
        Expect.rejects(7, 12, Make.STATES + " r5+2", x -> x.renew(5, 9));
        Expect.rejects(7, 20, Make.STATES + " r5+2 r5+8", x -> x.renew(5, 1));
        Expect.answers(21, Make.STATES + " r5+2 r5+8 y1", x -> x.renew(5, 1));
        Expect.rejects(7, 20, Make.STATES + " r5+2 r5+8 y1", x -> x.renew(5, 2));
        Expect.answers(29, Make.STATES + " r5+2 r5+8 y9", x -> x.renew(5, 9));
        Expect.rejects(7, 20, Make.STATES + " r5+2 r5+8 y8", x -> x.renew(5, 9));
    }

    private static void pairs() {
        constant("PAIRED", 8, SockEmbassy.PAIRED);
        Expect.rejects(8, 4, Make.STATES, x -> x.leave(3));
        Expect.rejects(8, 3, Make.STATES, x -> x.leave(4));
        Expect.rejects(8, 4, Make.STATES + " t34o", x -> x.move(3, 4));
        Expect.rejects(8, 3, Make.STATES + " t34o", x -> x.move(4, 4));
        Expect.rejects(8, 4, Make.STATES, x -> x.pair(3, 5));
        Expect.rejects(8, 4, Make.STATES, x -> x.pair(5, 3));
        Expect.answers(10, Make.STATES + " k3", x -> x.leave(3));
        constant("NOT_PAIRED", 9, SockEmbassy.NOT_PAIRED);
        Expect.answers(4, Make.STATES, x -> x.separate(3));
        for (int sock : new int[] {0, 1, 2, 5}) {
            Expect.rejects(9, sock, Make.STATES, x -> x.separate(sock));
        }
        Expect.rejects(9, 3, Make.STATES + " k3", x -> x.separate(3));
        constant("OTHER_DRAWER", 10, SockEmbassy.OTHER_DRAWER);
        for (int drawer = 1; drawer < 5; drawer++) {
            String two = "nr1 nr1 a0>0 d0 a1>" + drawer + " d" + drawer;
            Expect.rejects(10, drawer, two, x -> x.pair(0, 1));
            Expect.rejects(10, 0, two, x -> x.pair(1, 0));
            Expect.answers(1, two + " t0" + drawer + "o m1>0", x -> x.pair(0, 1));
        }
        constant("NO_MATCH", 11, SockEmbassy.NO_MATCH);
        String three = "nr4 nr5 ng4 nw4 a0>0 a1>0 a2>0 d0 q0=4 a3>0 d0";
        Expect.rejects(11, 5, three, x -> x.pair(0, 1));
        Expect.rejects(11, 4, three, x -> x.pair(1, 0));
        Expect.rejects(11, 4, three, x -> x.pair(0, 2));
        Expect.rejects(11, 5, three, x -> x.pair(3, 1));
        Expect.answers(1, three, x -> x.pair(0, 3));
    }

    private static void moves() {
        constant("NO_TREATY", 12, SockEmbassy.NO_TREATY);
        Expect.rejects(12, 0, ROOMS, x -> x.move(0, 2));
        Expect.rejects(12, 1, ROOMS + " t02o", x -> x.move(1, 2));
        Expect.rejects(12, 0, ROOMS + " t02o e02", x -> x.move(0, 2));
        Expect.rejects(12, 0, ROOMS + " t02o", x -> x.move(0, 0));
        Expect.rejects(12, 1, ROOMS + " t12o", x -> x.move(3, 1));
        Expect.answers(10, ROOMS + " t02o", x -> x.move(0, 2));
        constant("CLAUSE", 13, SockEmbassy.CLAUSE);
        Expect.rejects(13, 1, ROOMS + " t01x q1=9", x -> x.move(0, 1));
        Expect.rejects(13, 2, ROOMS + " t01x a4>0 d0 q1=9", x -> x.move(0, 1));
        Expect.rejects(13, 3, ROOMS + " t01x a4>0 a5>0 d0 q1=9", x -> x.move(0, 1));
        Expect.answers(10, ROOMS + " t01x a4>0 a5>0 d0 q1=9 l1", x -> x.move(0, 1));
        Expect.answers(10, ROOMS + " t01s a4>0 a5>0 d0 q1=9 y9", x -> x.move(0, 1));
        constant("QUOTA", 14, SockEmbassy.QUOTA);
        Expect.rejects(14, 3, ROOMS + " t01o", x -> x.move(0, 1));
        Expect.rejects(14, 2, ROOMS + " t01s q1=2", x -> x.move(0, 1));
        Expect.rejects(14, 0, ROOMS + " t01s q1=0", x -> x.move(0, 1));
        Expect.answers(10, ROOMS + " t01o q1=4", x -> x.move(0, 1));
        Expect.rejects(14, 0, ROOMS + " t02o q2=0", x -> x.move(0, 2));
        Expect.answers(10, ROOMS + " t02o q2=1", x -> x.move(0, 2));
        constant("BANNED", 15, SockEmbassy.BANNED);
        Expect.rejects(15, 0, ROOMS + " t02o b2r", x -> x.move(0, 2));
        Expect.rejects(15, 3, ROOMS + " t12o b2r", x -> x.move(3, 2));
        Expect.answers(10, ROOMS + " t02o b2g b2b b2w b0r", x -> x.move(0, 2));
        Expect.answers(10, ROOMS + " t02o b2r u2r", x -> x.move(0, 2));
        // It is the colour of this sock, and the ban of that drawer.
        String green = "ng1 nr2 ng3 a0>0 a1>0 a2>0 d0 t02o t04o ";
        Expect.rejects(15, 1, green + "b2r", x -> x.move(1, 2));
        Expect.answers(10, green + "b2r", x -> x.move(2, 2));
        Expect.answers(10, green + "b2r", x -> x.move(1, 4));
        Expect.rejects(15, 2, green + "b4g", x -> x.move(2, 4));
        Expect.answers(10, green + "b4g", x -> x.move(1, 4));
    }

    private static void treaties() {
        constant("TREATY_EXISTS", 16, SockEmbassy.TREATY_EXISTS);
        StringBuilder signed = new StringBuilder();
        int treaties = 0;
        for (int first = 0; first < 5; first++) {
            for (int second = first + 1; second < 5; second++) {
                int one = first;
                int other = second;
                treaties++;
                Expect.answers(treaties, signed.toString(), x -> x.signTreaty(other, one, 's'));
                signed.append('t').append(first).append(second).append("o ");
                Expect.rejects(16, treaties, signed.toString(), x -> x.signTreaty(one, other, 'o'));
                Expect.rejects(16, treaties, signed.toString(), x -> x.signTreaty(other, one, 'x'));
            }
        }
        Expect.is(10, treaties);
        Expect.answers(10, signed + "e43", x -> x.signTreaty(4, 3, 'x'));
    }

    private static void commands() {
        constant("COMMAND_REJECTED", 17, SockEmbassy.COMMAND_REJECTED);
        for (int ahead = 0; ahead < 20; ahead++) {
            SockEmbassy office = Make.office("nr1 i" + "y1;".repeat(ahead) + "w0");
            Expect.throwing(UnsupportedOperationException.class, office, SockEmbassy::execute);
            Expect.is(17, office.rejectionReason());
            Expect.is(ahead, office.rejectionDetail());
            Expect.is(SockEmbassy.NO_APPLICATION, office.causeReason());
        }
        Expect.answers(19, "nr1 i" + "y1;".repeat(19).substring(0, 56), SockEmbassy::execute);
    }
}
