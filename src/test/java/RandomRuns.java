import java.lang.reflect.InvocationTargetException;
import java.lang.reflect.Method;
import java.util.ArrayList;
import java.util.Arrays;
import java.util.List;
import java.util.Random;
import java.util.function.IntPredicate;
import java.util.stream.IntStream;

/** Compares the answers of an office and the model in runs of 512 calls, the same ones each time. */
final class RandomRuns {
    // How often a call is drawn, its name, and its arguments: s any sock, and mostly A one that is away, P one with an
    // application, F a refused one, R a resident; d a drawer, c a colour, z a size, n days of a renewal, q a quota,
    // t a clause, y days, p a position, i an index of the output, k a character.
    private static final String[] CALLS = {
        "4 addSock cz", "1 sockCount", "1 colourOf s", "1 sizeOf s", "1 isAway s", "1 isPending s", "1 isRefused s",
        "1 isResident s", "2 drawerOf s", "2 levelOf s", "2 visaDay s", "2 partnerOf s", "2 matches ss",
        "20 apply Ad", "3 withdraw P", "8 appeal F", "16 decide d", "4 wouldAdmit d", "6 queueAt dp",
        "2 pendingCount d", "8 renew Rn", "3 leave R", "14 move Rd", "16 pair RR", "5 separate R", "2 pairCount d",
        "3 possiblePairs d", "3 possiblePairsByColours d", "6 setQuota dq", "2 ban dc", "3 unban dc",
        "6 signTreaty ddt", "4 endTreaty dd", "2 clauseOf dd", "1 quotaOf d", "2 residents d", "3 residentAt dp",
        "1 isBanned dc", "6 canMove Rd", "5 passDays y", "1 day", "3 wouldExpel y", "1 admittedCount",
        "1 refusedCount", "1 expelledCount", "1 admissionBalance", "4 drawerByResidents p", "1 meanSize",
        "1 residentShare", "2 isConsistent", "4 writeSock s", "4 outputAt i", "1 appendInput k", "1 execute",
        "2 syntaxErrorOffset", "2 rejectionReason", "2 rejectionDetail", "2 causeReason", "6 undo",
        "1 saveSnapshot", "1 restoreSnapshot"};
    private static final String[] FORMS = {"ncz", "aA>d", "wP", "pF", "dd", "rR+n", "lR", "mR>d", "jR&R", "kR", "qd=q",
        "bdc", "udc", "tddt", "edd", "yy"};
    private static final int[] ODD = {Integer.MIN_VALUE, -1, 0, 1, 9, 10, 14, 20, 21, 60, Integer.MAX_VALUE};
    private static final int RUNS = 400;
    private static final int MOST = 512;

    private static final List<Call> ALL = new ArrayList<>();

    private static final class Call {
        final Method office;
        final Method model;
        final String kinds;

        Call(String name, String kinds) {
            this.office = method(SockEmbassy.class, name);
            this.model = method(Model.class, name);
            this.kinds = kinds;
        }
    }

    private final Random random;
    private final SockEmbassy office = new SockEmbassy();
    private final Model model = new Model();
    private int made;
    private String wrong = "";

    private RandomRuns(int seed) {
        this.random = new Random(seed);
    }

    static void run() {
        Expect.promise(0);
        for (String line : CALLS) {
            String[] parts = (line + " ").split(" ", 3);
            Call call = new Call(parts[1], parts[2].trim());
            for (int i = 0; i < Integer.parseInt(parts[0]); i++) {
                ALL.add(call);
            }
        }
        for (int seed = 0; seed < RUNS; seed++) {
            String found = new RandomRuns(seed).compare();
            Expect.holds(found.isEmpty(), "seed " + seed + found);
        }
    }

    private static Method method(Class<?> type, String name) {
        for (Method method : type.getMethods()) {
            if (method.getName().equals(name)) {
                return method;
            }
        }
        throw new IllegalArgumentException(name);
    }

    /** Returns the first call with different answers, or an empty text. */
    private String compare() {
        for (int i = random.nextInt(15); i > 0; i--) {
            make(new Call("addSock", "cz"));
        }
        while (wrong.isEmpty() && made < MOST - 64) {
            if (random.nextInt(40) == 0) {
                makeCommands();
            } else {
                make(ALL.get(random.nextInt(ALL.size())));
            }
        }
        return wrong;
    }

    private void makeCommands() {
        for (char character : commands().toCharArray()) {
            make(new Call("appendInput", "k"), character);
        }
        make(new Call("execute", ""));
    }

    private void make(Call call) {
        Object[] arguments = new Object[call.kinds.length()];
        for (int i = 0; i < arguments.length; i++) {
            arguments[i] = argument(call.kinds.charAt(i));
        }
        make(call, arguments);
    }

    private void make(Call call, Object... arguments) {
        Object got = answer(call.office, office, arguments);
        Object due = answer(call.model, model, arguments);
        made++;
        if (wrong.isEmpty() && !got.equals(due)) {
            wrong = ", call " + made + ": " + call.office.getName() + Arrays.toString(arguments) + " answers " + got
                    + ", the model " + due;
        }
        if (got.equals(UnsupportedOperationException.class.getName()) && random.nextBoolean() && made < MOST - 66) {
            make(new Call("rejectionReason", ""));
            make(new Call("rejectionDetail", ""));
            make(new Call("causeReason", ""));
        }
    }

    private static Object answer(Method method, Object target, Object[] arguments) {
        try {
            return method.invoke(target, arguments);
        } catch (InvocationTargetException e) {
            return e.getCause().getClass().getName();
        } catch (IllegalAccessException e) {
            return e.toString();
        }
    }

    private Object argument(char kind) {
        boolean odd = random.nextInt(40) == 0;
        if (kind == 'k') {
            return odd ? (char) random.nextInt(300) : (char) (32 + random.nextInt(95));
        }
        if (kind == 'c' || kind == 't') {
            return odd ? (char) random.nextInt(300) : letter(kind);
        }
        return odd ? ODD[random.nextInt(ODD.length)] : number(kind);
    }

    private char letter(char kind) {
        String letters = kind == 'c' ? "rrrgbww" : "oossx";
        return letters.charAt(random.nextInt(letters.length()));
    }

    private int number(char kind) {
        switch (kind) {
            case 's': return random.nextInt(Math.max(1, model.sockCount()));
            case 'A': return sock(model::isAway);
            case 'P': return sock(sock -> model.isPending(sock) || model.isRefused(sock));
            case 'F': return sock(model::isRefused);
            case 'R': return sock(model::isResident);
            // Some drawers are drawn more often, so that they fill.
            case 'd': return random.nextInt(random.nextInt(5) + 1);
            case 'z': return 1 + random.nextInt(random.nextInt(6) == 0 ? 9 : 2);
            case 'n': return 1 + random.nextInt(9);
            case 'q': return random.nextInt(10);
            case 'y': return 1 + random.nextInt(random.nextInt(6) == 0 ? 20 : 3);
            case 'p': return random.nextInt(random.nextInt(6) + 1);
            default: return random.nextInt(11);
        }
    }

    /** Mostly a sock of this state, if there is one. */
    private int sock(IntPredicate state) {
        int[] found = IntStream.range(0, model.sockCount()).filter(state).toArray();
        boolean any = found.length == 0 || random.nextInt(8) == 0;
        return any ? number('s') : found[random.nextInt(found.length)];
    }

    /** Commands of at most 60 characters, mostly without a syntax error. */
    private String commands() {
        StringBuilder text = new StringBuilder();
        int number = 1 + random.nextInt(4);
        for (int i = 0; i < number; i++) {
            text.append(i > 0 ? ";" : "").append(command(FORMS[random.nextInt(FORMS.length)]));
        }
        if (random.nextInt(5) == 0) {
            text.setCharAt(random.nextInt(text.length()), (char) (32 + random.nextInt(95)));
        }
        if (random.nextInt(9) == 0) {
            text.setLength(random.nextInt(text.length() + 1));
        }
        return text.toString();
    }

    private String command(String form) {
        StringBuilder text = new StringBuilder(form.substring(0, 1));
        for (char kind : form.substring(1).toCharArray()) {
            if (">+&=".indexOf(kind) >= 0) {
                text.append(kind);
            } else if (kind == 'c' || kind == 't') {
                text.append(letter(kind));
            } else {
                text.append(random.nextInt(40) == 0 ? random.nextInt(10) : number(kind));
            }
        }
        return text.toString();
    }
}
