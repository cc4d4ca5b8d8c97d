import java.util.NoSuchElementException;
import java.util.function.Consumer;
import java.util.function.Supplier;

/** Compares answers with those that are due, and counts what it finds. */
final class Expect {
    /** A call with an index of a sock or a drawer. */
    interface IndexCall {
        Object on(SockEmbassy office, int index);
    }

    static int passed;
    static int failed;
    private static int promise;

    private Expect() {
    }

    /** Says which promise the next expectations test. */
    static void promise(int number) {
        promise = number;
    }

    static void is(Object want, Object got) {
        note(want.equals(got), "due is " + want + ", the answer is " + got);
    }

    static void holds(boolean right, String what) {
        note(right, what);
    }

    /** The call throws just this class, and an office made alike shows that it has changed nothing. */
    static void fails(Class<?> type, String setup, Consumer<SockEmbassy> call) {
        SockEmbassy office = Make.office(setup);
        throwing(type, office, call);
        SockEmbassy twin = Make.office(setup);
        is(Picture.notes(twin), Picture.notes(office));
        is(Picture.all(twin), Picture.all(office));
    }

    /** The call is rejected, and has changed nothing but the latest rejection. */
    static void rejects(int reason, int detail, String setup, Consumer<SockEmbassy> call) {
        SockEmbassy office = Make.office(setup);
        throwing(UnsupportedOperationException.class, office, call);
        is(reason, office.rejectionReason());
        is(detail, office.rejectionDetail());
        throwing(NoSuchElementException.class, office, SockEmbassy::causeReason);
        is(Picture.all(Make.office(setup)), Picture.all(office));
    }

    /** The call throws IndexOutOfBoundsException for every index without a sock. */
    static void noSock(IndexCall call) {
        for (int sock : new int[] {Integer.MIN_VALUE, -1, 6, 13, 14, Integer.MAX_VALUE}) {
            fails(IndexOutOfBoundsException.class, Make.STATES, x -> call.on(x, sock));
        }
        fails(IndexOutOfBoundsException.class, "", x -> call.on(x, 0));
        fails(IndexOutOfBoundsException.class, "nr1 a0>1 d1", x -> call.on(x, 1));
    }

    /** The call throws IndexOutOfBoundsException for every index without a drawer. */
    static void noDrawer(IndexCall call) {
        for (int drawer : new int[] {Integer.MIN_VALUE, -1, 5, 6, 25, Integer.MAX_VALUE}) {
            fails(IndexOutOfBoundsException.class, Make.STATES, x -> call.on(x, drawer));
        }
    }

    static void throwing(Class<?> type, SockEmbassy office, Consumer<SockEmbassy> call) {
        String got = "no exception";
        try {
            call.accept(office);
        } catch (RuntimeException e) {
            got = e.getClass().getName();
        }
        is(type.getName(), got);
    }

    /** The answer, or the name of the exception's class. */
    static Object answer(Supplier<Object> call) {
        try {
            return call.get();
        } catch (RuntimeException e) {
            return e.getClass().getName();
        }
    }

    private static void note(boolean right, String what) {
        if (right) {
            passed++;
        } else {
            failed++;
            System.out.println("promise " + promise + ", " + place() + ": " + what);
        }
    }

    private static String place() {
        for (StackTraceElement step : new Throwable().getStackTrace()) {
            if (!step.getClassName().startsWith("Expect")) {
                return step.getFileName() + ":" + step.getLineNumber();
            }
        }
        return "somewhere";
    }
}
