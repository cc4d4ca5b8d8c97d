import java.util.function.IntFunction;
import java.util.function.Supplier;

/** Texts that show what the calls of an office tell. */
final class Picture {
    private Picture() {
    }

    /** The latest rejection and the latest syntax error. */
    static String notes(SockEmbassy office) {
        StringBuilder text = new StringBuilder();
        add(text, "reason", office::rejectionReason);
        add(text, "detail", office::rejectionDetail);
        add(text, "cause", office::causeReason);
        add(text, "syntax", office::syntaxErrorOffset);
        return text.toString();
    }

    /** All but the notes. The office is of no use afterwards: the changes are undone to count them. */
    static String all(SockEmbassy office) {
        StringBuilder text = new StringBuilder(data(office));
        text.append("output ").append(output(office)).append('\n');
        add(text, "input", () -> office.appendInput(' '));
        for (int i = 0; i < 9; i++) {
            add(text, "undo", office::undo);
        }
        add(text, "first", office::sockCount);
        return text.toString();
    }

    /** What undo and the snapshot cover. */
    static String data(SockEmbassy office) {
        StringBuilder text = new StringBuilder();
        for (int sock = 0; sock < office.sockCount(); sock++) {
            text.append(sock(office, sock)).append('\n');
        }
        for (int drawer = 0; drawer < 5; drawer++) {
            text.append(drawer(office, drawer)).append('\n');
        }
        add(text, "day", office::day);
        add(text, "admitted", office::admittedCount);
        add(text, "refused", office::refusedCount);
        add(text, "expelled", office::expelledCount);
        return text.toString();
    }

    static String output(SockEmbassy office) {
        return list(office::outputAt);
    }

    private static String sock(SockEmbassy office, int sock) {
        StringBuilder text = new StringBuilder();
        text.append(office.colourOf(sock)).append(office.sizeOf(sock));
        text.append(office.isAway(sock) ? " away" : "").append(office.isPending(sock) ? " pending" : "");
        text.append(office.isRefused(sock) ? " refused" : "").append(office.isResident(sock) ? " resident" : "");
        text.append(' ').append(Expect.answer(() -> office.drawerOf(sock)));
        text.append(' ').append(Expect.answer(() -> office.levelOf(sock)));
        text.append(' ').append(Expect.answer(() -> office.visaDay(sock)));
        text.append(' ').append(Expect.answer(() -> office.partnerOf(sock)));
        return text.toString();
    }

    private static String drawer(SockEmbassy office, int drawer) {
        StringBuilder text = new StringBuilder();
        text.append(office.quotaOf(drawer)).append(' ').append(office.pairCount(drawer)).append(' ');
        for (char colour : "rgbw".toCharArray()) {
            text.append(office.isBanned(drawer, colour) ? colour : '-');
        }
        for (int other = drawer + 1; other < 5; other++) {
            int second = other;
            text.append(' ').append(Expect.answer(() -> office.clauseOf(drawer, second)));
        }
        text.append(" residents ").append(list(position -> office.residentAt(drawer, position)));
        text.append(" queue ").append(list(position -> office.queueAt(drawer, position)));
        return text.toString();
    }

    /** The answers from position 0 up to the first exception, whose class ends the text. */
    private static String list(IntFunction<Object> at) {
        StringBuilder text = new StringBuilder();
        Object answer = "";
        for (int i = 0; i < 64 && !answer.toString().endsWith("Exception"); i++) {
            int position = i;
            answer = Expect.answer(() -> at.apply(position));
            text.append(answer).append(',');
        }
        return text.toString();
    }

    private static void add(StringBuilder text, String name, Supplier<Object> call) {
        text.append(name).append(' ').append(Expect.answer(call)).append('\n');
    }
}
