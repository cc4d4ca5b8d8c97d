import java.util.NoSuchElementException;

/** Promises 33 to 35: treaties. */
final class TreatyTests {
    private static final String THREE = "t12o t03x t34s";

    private TreatyTests() {
    }

    static void run() {
        signing();
        refusedTreaties();
        ending();
        clauses();
    }

    private static void signing() {
        Expect.promise(33);
        Expect.sentence("Signs a treaty between two drawers.");
        Expect.answers('o', "t12o", x -> x.clauseOf(1, 2));
        Expect.answers('o', "t12o", x -> x.clauseOf(2, 1));
        Expect.answers('s', "t12o e12 t21s", x -> x.clauseOf(1, 2));
        Expect.sentence("- `clause`: the clause: 'o' for open, 's' for short, 'x' for exchange");
        for (char clause : "osx".toCharArray()) {
            Expect.answers(1, "", x -> x.signTreaty(4, 0, clause));
        }
        Expect.sentence("Returns the number of treaties after the call.");
        SockEmbassy office = new SockEmbassy();
        int treaties = 0;
        for (int first = 0; first < 5; first++) {
            for (int second = 0; second < first; second++) {
                treaties++;
                Expect.is(treaties, office.signTreaty(first, second, "osx".charAt(treaties % 3)));
            }
        }
        Expect.is(10, treaties);
        Expect.answers(3, THREE + " e12", x -> x.signTreaty(2, 1, 'x'));
    }

    private static void refusedTreaties() {
        Expect.promise(33);
        Expect.sentence("Throws `IndexOutOfBoundsException` if there is no such drawer, for either argument");
        Expect.everyDrawer((x, drawer) -> x.signTreaty(drawer, 1, 'o'));
        Expect.everyDrawer((x, drawer) -> x.signTreaty(1, drawer, 'o'));
        Expect.outside("", (x, drawer) -> x.signTreaty(drawer, drawer, 'q'), -1, 5);
        Expect.sentence("Throws `IllegalArgumentException` if both arguments are the same drawer, or there is no");
        for (char clause : "\0 OSXnprtwyrgb-\u016f\uffff".toCharArray()) {
            Expect.fails(IllegalArgumentException.class, "t12o", x -> x.signTreaty(0, 1, clause));
            Expect.fails(IllegalArgumentException.class, "t12o", x -> x.signTreaty(1, 2, clause));
        }
        for (int drawer = 0; drawer < 5; drawer++) {
            int same = drawer;
            Expect.fails(IllegalArgumentException.class, "t12o", x -> x.signTreaty(same, same, 'o'));
        }
        Expect.sentence("Throws `UnsupportedOperationException` if the call is rejected with the reason TREATY_EXISTS");
        Expect.rejects(SockEmbassy.TREATY_EXISTS, 1, "t12o", x -> x.signTreaty(1, 2, 'o'));
        Expect.rejects(SockEmbassy.TREATY_EXISTS, 1, "t12o", x -> x.signTreaty(2, 1, 's'));
        Expect.rejects(SockEmbassy.TREATY_EXISTS, 3, THREE, x -> x.signTreaty(4, 3, 'x'));
    }

    private static void ending() {
        Expect.promise(34);
        Expect.sentence("Ends the treaty between two drawers.");
        Expect.answers(NoSuchElementException.class.getName(), THREE + " e12", x -> x.clauseOf(1, 2));
        Expect.answers(NoSuchElementException.class.getName(), THREE + " e12", x -> x.clauseOf(2, 1));
        Expect.answers('x', THREE + " e12", x -> x.clauseOf(0, 3));
        Expect.sentence("Returns the number of treaties after the call.");
        Expect.answers(2, THREE, x -> x.endTreaty(2, 1));
        Expect.answers(1, THREE + " e12", x -> x.endTreaty(3, 4));
        Expect.answers(0, THREE + " e12 e34", x -> x.endTreaty(0, 3));
        Expect.sentence("Throws `IndexOutOfBoundsException` if there is no such drawer, for either argument");
        Expect.everyDrawer((x, drawer) -> x.endTreaty(drawer, 1));
        Expect.everyDrawer((x, drawer) -> x.endTreaty(1, drawer));
        Expect.outside("", (x, drawer) -> x.endTreaty(drawer, drawer), -1, 5);
        Expect.sentence("Throws `NoSuchElementException` if there is no treaty between them");
        Expect.fails(NoSuchElementException.class, "", x -> x.endTreaty(0, 1));
        Expect.fails(NoSuchElementException.class, "t12o", x -> x.endTreaty(1, 3));
        Expect.fails(NoSuchElementException.class, "t12o", x -> x.endTreaty(1, 1));
        Expect.fails(NoSuchElementException.class, "t12o e12", x -> x.endTreaty(1, 2));
    }

    private static void clauses() {
        Expect.promise(35);
        Expect.sentence("Returns the clause of the treaty between two drawers.", "Returns 'o', 's' or 'x'.");
        SockEmbassy office = Make.office(THREE);
        Expect.is('o', office.clauseOf(1, 2));
        Expect.is('o', office.clauseOf(2, 1));
        Expect.is('x', office.clauseOf(0, 3));
        Expect.is('x', office.clauseOf(3, 0));
        Expect.is('s', office.clauseOf(3, 4));
        Expect.is('s', office.clauseOf(4, 3));
        Expect.sentence("Throws `IndexOutOfBoundsException` if there is no such drawer, for either argument");
        Expect.everyDrawer((x, drawer) -> x.clauseOf(drawer, 1));
        Expect.everyDrawer((x, drawer) -> x.clauseOf(1, drawer));
        Expect.outside("", (x, drawer) -> x.clauseOf(drawer, drawer), -1, 5);
        Expect.sentence("Throws `NoSuchElementException` if there is no treaty between them");
        Expect.fails(NoSuchElementException.class, "", x -> x.clauseOf(0, 4));
        Expect.fails(NoSuchElementException.class, "t12o", x -> x.clauseOf(1, 3));
        Expect.fails(NoSuchElementException.class, "t12o", x -> x.clauseOf(2, 2));
        Expect.fails(NoSuchElementException.class, "t12o e21", x -> x.clauseOf(1, 2));
    }
}
