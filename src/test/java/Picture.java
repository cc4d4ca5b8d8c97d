import java.util.HashMap;
import java.util.List;
import java.util.Map;
import java.util.function.IntFunction;
import java.util.function.Supplier;

/** Texts that show what the calls of an office tell. */
final class Picture {
    private static final Map<String, List<String>> KNOWN = new HashMap<>();

    private Picture() {
    }

    /** The latest rejection and the latest syntax error. */
    static String notes(SockEmbassy office) {
        StringBuilder text = new StringBuilder();
        add(text, "reason", office::rejectionReason);
        add(text, "detail", office::rejectionDetail);
        add(text, "cause", office::causeReason);
        return text + syntaxError(office);
    }

    static String syntaxError(SockEmbassy office) {
        return "syntax " + Expect.answer(office::syntaxErrorOffset) + "\n";
    }

    /** All but the notes; each view is taken of an office of its own, because it uses it up. */
    static List<String> views(Supplier<SockEmbassy> maker) {
        return List.of(dataAndOutput(maker.get()), lengthOfInput(maker.get()), carriedOut(maker.get()),
                undone(maker.get(), 1), undone(maker.get(), 9), restored(maker.get()));
    }

    static List<String> views(String setup) {
        return KNOWN.computeIfAbsent(setup, words -> views(() -> Make.office(words)));
    }

    private static String dataAndOutput(SockEmbassy office) {
        return data(office) + "output " + output(office);
    }

    private static String lengthOfInput(SockEmbassy office) {
        return "input " + Expect.answer(() -> office.appendInput(' '));
    }

    private static String carriedOut(SockEmbassy office) {
        return "execute " + Expect.answer(office::execute) + "\n" + syntaxError(office) + data(office);
    }

    private static String undone(SockEmbassy office, int times) {
        StringBuilder text = new StringBuilder();
        for (int i = 0; i < times; i++) {
            add(text, "undo", office::undo);
        }
        return text + data(office);
    }

    private static String restored(SockEmbassy office) {
        return "restore " + Expect.answer(office::restoreSnapshot) + "\n" + data(office);
    }

    /** What undo and the snapshot cover. */
    static String data(SockEmbassy office) {
        StringBuilder text = new StringBuilder();
        for (int sock = 0; sock < office.sockCount(); sock++) {
            text.append(sock(office, sock)).append('\n');
        }
        for (int drawer = 0; drawer < 5; drawer++) {
            text.append(drawer(office, drawer)).append('\n');
        }
        add(text, "day", office::day);
        add(text, "admitted", office::admittedCount);
        add(text, "refused", office::refusedCount);
        add(text, "expelled", office::expelledCount);
        return text.toString();
    }

    static String output(SockEmbassy office) {
        return list(office::outputAt);
    }

    private static String sock(SockEmbassy office, int sock) {
        StringBuilder text = new StringBuilder();
        text.append(office.colourOf(sock)).append(office.sizeOf(sock));
        text.append(office.isAway(sock) ? " away" : "").append(office.isPending(sock) ? " pending" : "");
        text.append(office.isRefused(sock) ? " refused" : "").append(office.isResident(sock) ? " resident" : "");
        text.append(' ').append(Expect.answer(() -> office.drawerOf(sock)));
        text.append(' ').append(Expect.answer(() -> office.levelOf(sock)));
        text.append(' ').append(Expect.answer(() -> office.visaDay(sock)));
        text.append(' ').append(Expect.answer(() -> office.partnerOf(sock)));
        return text.toString();
    }

    private static String drawer(SockEmbassy office, int drawer) {
        StringBuilder text = new StringBuilder();
        text.append(office.quotaOf(drawer)).append(' ').append(office.pairCount(drawer)).append(' ');
        for (char colour : "rgbw".toCharArray()) {
            text.append(office.isBanned(drawer, colour) ? colour : '-');
        }
        for (int other = drawer + 1; other < 5; other++) {
            int second = other;
            text.append(' ').append(Expect.answer(() -> office.clauseOf(drawer, second)));
        }
        text.append(" residents ").append(list(position -> office.residentAt(drawer, position)));
        text.append(" queue ").append(list(position -> office.queueAt(drawer, position)));
        return text.toString();
    }

    /** The answers from position 0 up to the first exception, whose class ends the text. */
    private static String list(IntFunction<Object> at) {
        StringBuilder text = new StringBuilder();
        Object answer = "";
        for (int i = 0; i < 64 && !answer.toString().endsWith("Exception"); i++) {
            int position = i;
            answer = Expect.answer(() -> at.apply(position));
            text.append(answer).append(',');
        }
        return text.toString();
    }

    private static void add(StringBuilder text, String name, Supplier<Object> call) {
        text.append(name).append(' ').append(Expect.answer(call)).append('\n');
    }
}
