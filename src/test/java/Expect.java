import java.util.ArrayList;
import java.util.List;
import java.util.NoSuchElementException;
import java.util.function.Consumer;
import java.util.function.Function;
import java.util.function.Supplier;

/** Compares answers with those that are due, and counts what it finds. */
final class Expect {
    /** A call with an index of a sock or a drawer. */
    interface IndexCall {
        Object on(SockEmbassy office, int index);
    }

    static final String FOURTEEN = "nr1 ".repeat(14);

    static int passed;
    static int failed;
    private static String section = "";
    private static final List<String> sentences = new ArrayList<>();

    private Expect() {
    }

    /** Says which promise the next sentences and expectations belong to; 0 is no promise of the document. */
    static void promise(int number) {
        section = "Promise " + number;
        sentences.clear();
    }

    /** Says which sentence of the promise the next expectations test; several, if they say the same. */
    static void sentence(String... words) {
        sentences.clear();
        for (String some : words) {
            String whole = Document.sentence(section, some);
            if (whole.isEmpty()) {
                holds(false, "the document does not say just once: " + some);
            } else {
                sentences.add(whole);
            }
        }
    }

    /** Says which sentence of the terms the next expectations test. */
    static void term(String words) {
        section = Document.TERMS;
        sentence(words);
    }

    static void whatItIs(String words) {
        section = Document.WHAT_IT_IS;
        sentence(words);
    }

    static void is(Object want, Object got) {
        note(want.equals(got), "due is " + want + ", the answer is " + got);
    }

    static void holds(boolean right, String what) {
        note(right, what);
    }

    /** The answer of a call on an office that is made for it. */
    static void answers(Object want, String setup, Function<SockEmbassy, Object> call) {
        SockEmbassy office = Make.office(setup);
        is(want, answer(() -> call.apply(office)));
    }

    static void throwing(Class<?> type, SockEmbassy office, Consumer<SockEmbassy> call) {
        String got = "no exception";
        try {
            call.accept(office);
        } catch (RuntimeException e) {
            got = e.getClass().getName();
        }
        is(type.getName(), got);
    }

    /** The call throws just this class and changes nothing, also where there is more that it could change. */
    static void fails(Class<?> type, String setup, Consumer<SockEmbassy> call) {
        failsOnce(type, setup, call);
        failsOnce(type, setup + Make.NOTED, call);
    }

    /** The call throws just this class, and an office made alike shows that it has changed nothing. */
    static void failsOnce(Class<?> type, String setup, Consumer<SockEmbassy> call) {
        is(Picture.notes(Make.office(setup)), Picture.notes(failed(type, setup, call)));
        same(setup, () -> failed(type, setup, call));
    }

    /** The call is rejected, and has changed nothing but the latest rejection. */
    static void rejects(int reason, int detail, String setup, Consumer<SockEmbassy> call) {
        rejectsOnce(reason, detail, setup, call);
        rejectsOnce(reason, detail, setup + Make.NOTED, call);
    }

    private static void rejectsOnce(int reason, int detail, String setup, Consumer<SockEmbassy> call) {
        Class<?> type = UnsupportedOperationException.class;
        SockEmbassy office = failed(type, setup, call);
        is(reason, office.rejectionReason());
        is(detail, office.rejectionDetail());
        throwing(NoSuchElementException.class, office, SockEmbassy::causeReason);
        is(Picture.syntaxError(Make.office(setup)), Picture.syntaxError(office));
        same(setup, () -> failed(type, setup, call));
    }

    private static SockEmbassy failed(Class<?> type, String setup, Consumer<SockEmbassy> call) {
        SockEmbassy office = Make.office(setup);
        throwing(type, office, call);
        return office;
    }

    /** The office shows what one made by these words alone shows, but for its notes. */
    static void same(String setup, Supplier<SockEmbassy> maker) {
        is(Picture.views(setup), Picture.views(maker));
    }

    /** Asking for an answer leaves everything as it was. */
    static void onlyTells(String setup, Function<SockEmbassy, Object> call) {
        Supplier<SockEmbassy> asked = () -> {
            SockEmbassy office = Make.office(setup + Make.NOTED);
            answer(() -> call.apply(office));
            return office;
        };
        is(Picture.notes(Make.office(setup + Make.NOTED)), Picture.notes(asked.get()));
        same(setup + Make.NOTED, asked);
    }

    /** Tests the sentence on indices without a sock, ahead of and behind those that have one. */
    static void socks(IndexCall call) {
        sentence("Throws `IndexOutOfBoundsException` if there is no such sock");
        everySock(call);
    }

    static void everySock(IndexCall call) {
        outside(Make.STATES, call, Integer.MIN_VALUE, -14, -1, 6, 7, 13, 14, Integer.MAX_VALUE);
        inside(Make.STATES, call, 0, 1, 2, 3, 4, 5);
        outside("", call, -1, 0, 13);
        outside("nr1 a0>1 d1", call, -1, 1);
        inside("nr1 a0>1 d1", call, 0);
        outside(FOURTEEN, call, -1, 14, 15);
        inside(FOURTEEN, call, 0, 13);
    }

    /** Tests the sentences on the drawers that there are, and on indices without one. */
    static void drawers(IndexCall call) {
        sentence("- `drawer`: the index of a drawer, 0 to 4");
        inside(Make.STATES, call, 0, 1, 2, 3, 4);
        sentence("Throws `IndexOutOfBoundsException` if there is no such ");
        everyDrawer(call);
    }

    static void everyDrawer(IndexCall call) {
        outside(Make.STATES, call, Integer.MIN_VALUE, -5, -1, 5, 6, 25, Integer.MAX_VALUE);
        inside(Make.STATES, call, 0, 1, 2, 3, 4);
        outside("", call, -1, 5);
    }

    static void outside(String setup, IndexCall call, int... indices) {
        for (int index : indices) {
            fails(IndexOutOfBoundsException.class, setup, x -> call.on(x, index));
        }
    }

    private static void inside(String setup, IndexCall call, int... indices) {
        for (int index : indices) {
            SockEmbassy office = Make.office(setup);
            Object answer = answer(() -> call.on(office, index));
            holds(!answer.equals(IndexOutOfBoundsException.class.getName()), "the index " + index + " is refused");
        }
    }

    /** The answer, or the name of the exception's class. */
    static Object answer(Supplier<Object> call) {
        try {
            return call.get();
        } catch (RuntimeException e) {
            return e.getClass().getName();
        }
    }

    private static void note(boolean right, String what) {
        for (String sentence : sentences) {
            Document.count(section, sentence);
        }
        if (right) {
            passed++;
        } else {
            failed++;
            System.out.println(section + " " + sentences + ", " + place() + ": " + what);
        }
    }

    private static String place() {
        for (StackTraceElement step : new Throwable().getStackTrace()) {
            if (!step.getClassName().matches("(Expect|Picture|java).*")) {
                return step.getFileName() + ":" + step.getLineNumber();
            }
        }
        return "somewhere";
    }
}
