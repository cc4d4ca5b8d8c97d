import java.util.ArrayDeque;
import java.util.ArrayList;
import java.util.Comparator;
import java.util.Deque;
import java.util.List;
import java.util.NoSuchElementException;
import java.util.Set;
import java.util.TreeMap;
import java.util.TreeSet;
import java.util.regex.Matcher;
import java.util.regex.Pattern;
import java.util.stream.Collectors;
import java.util.stream.IntStream;

/** A second office, written from the document with the whole library, to compare answers with. */
public final class Model {
    private static final String COMMAND = "n[rgbw][0-9]|[am][0-9]{1,2}>[0-9]|[wplky][0-9]{1,2}|d[0-9]"
            + "|r[0-9]{1,2}\\+[0-9]|j[0-9]{1,2}&[0-9]{1,2}|q[0-9]=[0-9]|[bu][0-9][rgbw]|t[0-9]{2}[osx]|e[0-9]{2}";
    private static final Pattern INPUT = Pattern.compile("(?:" + COMMAND + ")(?:;(?:" + COMMAND + "))*");

    private enum State { AWAY, PENDING, REFUSED, RESIDENT }

    private static final class Sock {
        char colour;
        int size;
        State state = State.AWAY;
        int drawer;
        int level;
        int made;
        int visa;
        Integer partner;

        Sock copy() {
            Sock other = new Sock();
            other.colour = colour;
            other.size = size;
            other.state = state;
            other.drawer = drawer;
            other.level = level;
            other.made = made;
            other.visa = visa;
            other.partner = partner;
            return other;
        }
    }

    private static final class Data {
        List<Sock> socks = new ArrayList<>();
        List<Integer> quotas = new ArrayList<>(List.of(3, 3, 3, 3, 3));
        Set<String> bans = new TreeSet<>();
        TreeMap<String, Character> treaties = new TreeMap<>();
        int day;
        int admitted;
        int refused;
        int expelled;

        Data copy() {
            Data other = new Data();
            socks.forEach(sock -> other.socks.add(sock.copy()));
            other.quotas = new ArrayList<>(quotas);
            other.bans.addAll(bans);
            other.treaties.putAll(treaties);
            other.day = day;
            other.admitted = admitted;
            other.refused = refused;
            other.expelled = expelled;
            return other;
        }
    }

    private Data data = new Data();
    private Data snapshot;
    private final Deque<Data> changes = new ArrayDeque<>();
    private boolean executing;
    private String input = "";
    private String output = "";
    private int[] rejection;
    private Integer syntaxError;

    // ---- helpers

    private Sock sock(int index) {
        if (index < 0 || index >= data.socks.size()) {
            throw new IndexOutOfBoundsException();
        }
        return data.socks.get(index);
    }

    private static void drawer(int index) {
        if (index < 0 || index > 4) {
            throw new IndexOutOfBoundsException();
        }
    }

    private static void argument(boolean valid) {
        if (!valid) {
            throw new IllegalArgumentException();
        }
    }

    private static void element(boolean found) {
        if (!found) {
            throw new NoSuchElementException();
        }
    }

    private void rejectIf(boolean applies, int reason, int detail) {
        if (applies) {
            rejection = new int[] {reason, detail, 0};
            throw new UnsupportedOperationException();
        }
    }

    private void change() {
        if (!executing) {
            push(data.copy());
        }
    }

    private void push(Data before) {
        changes.addLast(before);
        if (changes.size() > 8) {
            changes.removeFirst();
        }
    }

    private IntStream those(State state, int drawer) {
        return IntStream.range(0, data.socks.size())
                .filter(i -> data.socks.get(i).state == state && data.socks.get(i).drawer == drawer);
    }

    private List<Integer> queue(int drawer) {
        Comparator<Integer> order = Comparator.comparing(i -> -data.socks.get(i).level);
        return those(State.PENDING, drawer).boxed()
                .sorted(order.thenComparing(i -> data.socks.get(i).made).thenComparing(i -> i))
                .collect(Collectors.toList());
    }

    private static String between(int first, int second) {
        return first < second ? first + "" + second : second + "" + first;
    }

    private static boolean colour(char colour) {
        return colour == 'r' || colour == 'g' || colour == 'b' || colour == 'w';
    }

    // ---- socks

    public int addSock(char colour, int size) {
        argument(colour(colour) && size >= 1 && size <= 9);
        rejectIf(data.socks.size() == 14, 1, 14);
        change();
        Sock sock = new Sock();
        sock.colour = colour;
        sock.size = size;
        data.socks.add(sock);
        return data.socks.size() - 1;
    }

    public int sockCount() {
        return data.socks.size();
    }

    public char colourOf(int sock) {
        return sock(sock).colour;
    }

    public int sizeOf(int sock) {
        return sock(sock).size;
    }

    public boolean isAway(int sock) {
        return sock(sock).state == State.AWAY;
    }

    public boolean isPending(int sock) {
        return sock(sock).state == State.PENDING;
    }

    public boolean isRefused(int sock) {
        return sock(sock).state == State.REFUSED;
    }

    public boolean isResident(int sock) {
        return sock(sock).state == State.RESIDENT;
    }

    public int drawerOf(int sock) {
        element(!isAway(sock));
        return sock(sock).drawer;
    }

    public int levelOf(int sock) {
        element(isPending(sock) || isRefused(sock));
        return sock(sock).level;
    }

    public int visaDay(int sock) {
        element(isResident(sock));
        return sock(sock).visa;
    }

    public int partnerOf(int sock) {
        element(sock(sock).partner != null);
        return sock(sock).partner;
    }

    public boolean matches(int first, int second) {
        Sock a = sock(first);
        Sock b = sock(second);
        return a != b && a.size == b.size && (a.colour == b.colour || "w".indexOf(a.colour) == 0 || b.colour == 'w');
    }

    // ---- applications and visas

    public int apply(int sock, int drawer) {
        Sock it = sock(sock);
        drawer(drawer);
        rejectIf(it.state != State.AWAY, 2, it.drawer);
        change();
        it.state = State.PENDING;
        it.drawer = drawer;
        it.level = 1;
        it.made = data.day;
        return pendingCount(drawer);
    }

    public int withdraw(int sock) {
        Sock it = sock(sock);
        rejectIf(it.state == State.AWAY || it.state == State.RESIDENT, 3, sock);
        change();
        it.state = State.AWAY;
        return it.drawer;
    }

    public int appeal(int sock) {
        Sock it = sock(sock);
        rejectIf(it.state != State.REFUSED, 4, sock);
        rejectIf(it.level == 3, 5, it.drawer);
        change();
        it.state = State.PENDING;
        it.made = data.day;
        it.level += 1;
        return it.level;
    }

    public int decide(int drawer) {
        drawer(drawer);
        change();
        return decideIn(data, drawer, queue(drawer));
    }

    private static int decideIn(Data data, int drawer, List<Integer> queue) {
        int become = 0;
        for (int index : queue) {
            Sock it = data.socks.get(index);
            long there = data.socks.stream().filter(s -> s.state == State.RESIDENT && s.drawer == drawer).count();
            if (there < data.quotas.get(drawer) && !data.bans.contains(drawer + "" + it.colour)) {
                it.state = State.RESIDENT;
                it.visa = data.day + 10;
                data.admitted++;
                become++;
            } else {
                it.state = State.REFUSED;
                data.refused++;
            }
        }
        return become;
    }

    public int wouldAdmit(int drawer) {
        drawer(drawer);
        return decideIn(data.copy(), drawer, queue(drawer));
    }

    public int queueAt(int drawer, int position) {
        drawer(drawer);
        List<Integer> queue = queue(drawer);
        element(position >= 0 && position < queue.size());
        return queue.get(position);
    }

    public int pendingCount(int drawer) {
        drawer(drawer);
        return (int) those(State.PENDING, drawer).count();
    }

    public int renew(int sock, int days) {
        Sock it = sock(sock);
        argument(days >= 1 && days <= 9);
        rejectIf(it.state != State.RESIDENT, 6, sock);
        rejectIf(it.visa + days - data.day > 20, 7, it.visa);
        change();
        it.visa += days;
        return it.visa;
    }

    public int leave(int sock) {
        Sock it = sock(sock);
        rejectIf(it.state != State.RESIDENT, 6, sock);
        rejectIf(it.partner != null, 8, it.partner == null ? 0 : it.partner);
        change();
        it.state = State.AWAY;
        return it.visa - data.day;
    }

    public int move(int sock, int drawer) {
        Sock it = sock(sock);
        drawer(drawer);
        rejectIf(it.state != State.RESIDENT, 6, sock);
        rejectIf(it.partner != null, 8, it.partner == null ? 0 : it.partner);
        Character clause = data.treaties.get(between(it.drawer, drawer));
        rejectIf(clause == null, 12, it.drawer);
        int here = residents(it.drawer);
        rejectIf(clause == 'x' && residents(drawer) >= here, 13, here);
        rejectIf(residents(drawer) >= quotaOf(drawer), 14, quotaOf(drawer));
        rejectIf(isBanned(drawer, it.colour), 15, sock);
        change();
        it.drawer = drawer;
        if (clause == 's' && it.visa > data.day + 3) {
            it.visa = data.day + 3;
        }
        return it.visa;
    }

    // ---- pairs

    public int pair(int first, int second) {
        Sock a = sock(first);
        Sock b = sock(second);
        argument(first != second);
        rejectIf(a.state != State.RESIDENT, 6, first);
        rejectIf(b.state != State.RESIDENT, 6, second);
        rejectIf(a.drawer != b.drawer, 10, b.drawer);
        rejectIf(a.partner != null, 8, a.partner == null ? 0 : a.partner);
        rejectIf(b.partner != null, 8, b.partner == null ? 0 : b.partner);
        rejectIf(!matches(first, second), 11, b.size);
        change();
        a.partner = second;
        b.partner = first;
        return pairCount(a.drawer);
    }

    public int separate(int sock) {
        Sock it = sock(sock);
        rejectIf(it.partner == null, 9, sock);
        change();
        int other = it.partner;
        it.partner = null;
        sock(other).partner = null;
        return other;
    }

    public int pairCount(int drawer) {
        drawer(drawer);
        return (int) those(State.RESIDENT, drawer)
                .filter(i -> data.socks.get(i).partner != null && data.socks.get(i).partner > i).count();
    }

    public int possiblePairs(int drawer) {
        drawer(drawer);
        int[] free = those(State.RESIDENT, drawer).filter(i -> data.socks.get(i).partner == null).toArray();
        int[] most = new int[1 << free.length];
        for (int set = 1; set < most.length; set++) {
            int last = 31 - Integer.numberOfLeadingZeros(set);
            most[set] = most[set - (1 << last)];
            for (int i = 0; i < last; i++) {
                if ((set >> i & 1) == 1 && matches(free[i], free[last])) {
                    most[set] = Math.max(most[set], 1 + most[set - (1 << last) - (1 << i)]);
                }
            }
        }
        return most[most.length - 1];
    }

    public int possiblePairsByColours(int drawer) {
        return possiblePairs(drawer);
    }

    // ---- drawers and treaties

    public int setQuota(int drawer, int quota) {
        drawer(drawer);
        argument(quota >= 0 && quota <= 9);
        change();
        return data.quotas.set(drawer, quota);
    }

    public boolean ban(int drawer, char colour) {
        drawer(drawer);
        argument(colour(colour));
        change();
        return data.bans.add(drawer + "" + colour);
    }

    public boolean unban(int drawer, char colour) {
        drawer(drawer);
        argument(colour(colour));
        change();
        return data.bans.remove(drawer + "" + colour);
    }

    public int signTreaty(int first, int second, char clause) {
        drawer(first);
        drawer(second);
        argument(first != second && (clause == 'o' || clause == 's' || clause == 'x'));
        rejectIf(data.treaties.containsKey(between(first, second)), 16, data.treaties.size());
        change();
        data.treaties.put(between(first, second), clause);
        return data.treaties.size();
    }

    public int endTreaty(int first, int second) {
        clauseOf(first, second);
        change();
        data.treaties.remove(between(first, second));
        return data.treaties.size();
    }

    public char clauseOf(int first, int second) {
        drawer(first);
        drawer(second);
        element(data.treaties.containsKey(between(first, second)));
        return data.treaties.get(between(first, second));
    }

    public int quotaOf(int drawer) {
        drawer(drawer);
        return data.quotas.get(drawer);
    }

    public int residents(int drawer) {
        drawer(drawer);
        return (int) those(State.RESIDENT, drawer).count();
    }

    public int residentAt(int drawer, int position) {
        drawer(drawer);
        element(position >= 0 && position < residents(drawer));
        return those(State.RESIDENT, drawer).toArray()[position];
    }

    public boolean isBanned(int drawer, char colour) {
        drawer(drawer);
        argument(colour(colour));
        return data.bans.contains(drawer + "" + colour);
    }

    public boolean canMove(int sock, int drawer) {
        sock(sock);
        drawer(drawer);
        int[] rejectionBefore = rejection;
        Data before = data.copy();
        boolean executingBefore = executing;
        executing = true;
        try {
            move(sock, drawer);
            return true;
        } catch (UnsupportedOperationException e) {
            return false;
        } finally {
            executing = executingBefore;
            rejection = rejectionBefore;
            data = before;
        }
    }

    // ---- days and totals

    public int passDays(int days) {
        argument(days >= 1 && days <= 20);
        change();
        return passIn(data, days);
    }

    private static int passIn(Data data, int days) {
        int before = data.expelled;
        for (int i = 0; i < days; i++) {
            data.day++;
            for (Sock it : data.socks) {
                if (it.state == State.RESIDENT && it.partner == null && it.visa < data.day) {
                    it.state = State.AWAY;
                    data.expelled++;
                }
            }
        }
        return data.expelled - before;
    }

    public int day() {
        return data.day;
    }

    public int wouldExpel(int days) {
        argument(days >= 1 && days <= 20);
        return passIn(data.copy(), days);
    }

    public int admittedCount() {
        return data.admitted;
    }

    public int refusedCount() {
        return data.refused;
    }

    public int expelledCount() {
        return data.expelled;
    }

    public int admissionBalance() {
        return data.admitted - data.expelled;
    }

    public int drawerByResidents(int position) {
        element(position >= 0 && position < 5);
        Comparator<Integer> order = Comparator.comparing(this::residents);
        return IntStream.range(0, 5).boxed()
                .sorted(order.thenComparing(this::pairCount).reversed().thenComparing(d -> d))
                .collect(Collectors.toList()).get(position);
    }

    public double meanSize() {
        if (data.socks.isEmpty()) {
            throw new ArithmeticException();
        }
        return (double) data.socks.stream().mapToInt(s -> s.size).sum() / (double) data.socks.size();
    }

    public float residentShare() {
        if (data.socks.isEmpty()) {
            throw new ArithmeticException();
        }
        return (float) data.socks.stream().filter(s -> s.state == State.RESIDENT).count() / (float) data.socks.size();
    }

    public boolean isConsistent() {
        return true;
    }

    // ---- text, commands, rejections and history

    public int writeSock(int sock) {
        Sock it = sock(sock);
        String text = sock + ":" + it.colour + it.size;
        switch (it.state) {
            case AWAY: text += "-"; break;
            case PENDING: text += "?" + it.drawer + "/" + it.level; break;
            case REFUSED: text += "x" + it.drawer + "/" + it.level; break;
            default: text += "@" + it.drawer + "<" + it.visa + (it.partner == null ? "" : "+" + it.partner);
        }
        output = text;
        return text.length();
    }

    public char outputAt(int index) {
        if (index < 0 || index >= output.length()) {
            throw new IndexOutOfBoundsException();
        }
        return output.charAt(index);
    }

    public int appendInput(char character) {
        argument(character >= 32 && character <= 126);
        if (input.length() == 60) {
            throw new IllegalStateException();
        }
        input += character;
        return input.length();
    }

    public int execute() {
        String text = input;
        input = "";
        if (!INPUT.matcher(text).matches()) {
            syntaxError = offset(text);
            throw new IllegalArgumentException();
        }
        String[] commands = text.split(";");
        Data before = data.copy();
        executing = true;
        for (int i = 0; i < commands.length; i++) {
            String failure = failure(commands[i]);
            if (!failure.isEmpty()) {
                executing = false;
                data = before;
                fail(failure, i);
            }
        }
        executing = false;
        push(before);
        return commands.length;
    }

    /** The first offset behind which nothing can follow that makes an input of this text. */
    private static int offset(String text) {
        for (int end = 1; end <= text.length(); end++) {
            Matcher matcher = INPUT.matcher(text.substring(0, end));
            if (!matcher.matches() && !matcher.hitEnd()) {
                return end - 1;
            }
        }
        return text.length();
    }

    private void fail(String failure, int command) {
        if (!failure.equals("rejected")) {
            throw new IllegalStateException();
        }
        rejection = new int[] {17, command, rejection[0]};
        throw new UnsupportedOperationException();
    }

    private String failure(String command) {
        try {
            perform(command);
            return "";
        } catch (UnsupportedOperationException e) {
            return "rejected";
        } catch (IndexOutOfBoundsException | IllegalArgumentException | NoSuchElementException e) {
            return "other";
        }
    }

    private void perform(String command) {
        String rest = command.substring(1);
        String[] parts = rest.split("[>+&=]");
        char last = command.charAt(command.length() - 1);
        int digit = Character.digit(rest.charAt(0), 10);
        switch (command.charAt(0)) {
            case 'n': addSock(rest.charAt(0), last - '0'); break;
            case 'a': apply(Integer.parseInt(parts[0]), Integer.parseInt(parts[1])); break;
            case 'w': withdraw(Integer.parseInt(rest)); break;
            case 'p': appeal(Integer.parseInt(rest)); break;
            case 'd': decide(digit); break;
            case 'r': renew(Integer.parseInt(parts[0]), Integer.parseInt(parts[1])); break;
            case 'l': leave(Integer.parseInt(rest)); break;
            case 'm': move(Integer.parseInt(parts[0]), Integer.parseInt(parts[1])); break;
            case 'j': pair(Integer.parseInt(parts[0]), Integer.parseInt(parts[1])); break;
            case 'k': separate(Integer.parseInt(rest)); break;
            case 'q': setQuota(digit, last - '0'); break;
            case 'b': ban(digit, last); break;
            case 'u': unban(digit, last); break;
            case 't': signTreaty(digit, rest.charAt(1) - '0', last); break;
            case 'e': endTreaty(digit, last - '0'); break;
            default: passDays(Integer.parseInt(rest)); break;
        }
    }

    public int syntaxErrorOffset() {
        element(syntaxError != null);
        return syntaxError;
    }

    public int rejectionReason() {
        element(rejection != null);
        return rejection[0];
    }

    public int rejectionDetail() {
        element(rejection != null);
        return rejection[1];
    }

    public int causeReason() {
        element(rejection != null && rejection[0] == 17);
        return rejection[2];
    }

    public int undo() {
        if (changes.isEmpty()) {
            throw new IllegalStateException();
        }
        data = changes.removeLast();
        return changes.size();
    }

    public int saveSnapshot() {
        snapshot = data.copy();
        return data.socks.size();
    }

    public int restoreSnapshot() {
        if (snapshot == null) {
            throw new IllegalStateException();
        }
        data = snapshot.copy();
        changes.clear();
        return data.socks.size();
    }
}
