import java.util.NoSuchElementException;

/**
 * An office that decides in which drawers socks may live.
 *
 * What every public call does, returns and throws stands in the document, shared/DOC.md; README.md tells how the
 * classes inside share the work.
 */
public final class SockEmbassy {
    public static final int SOCK_LIMIT = 1;
    public static final int NOT_AWAY = 2;
    public static final int NO_APPLICATION = 3;
    public static final int NOT_REFUSED = 4;
    public static final int FINAL_LEVEL = 5;
    public static final int NOT_RESIDENT = 6;
    public static final int VISA_LIMIT = 7;
    public static final int PAIRED = 8;
    public static final int NOT_PAIRED = 9;
    public static final int OTHER_DRAWER = 10;
    public static final int NO_MATCH = 11;
    public static final int NO_TREATY = 12;
    public static final int CLAUSE = 13;
    public static final int QUOTA = 14;
    public static final int BANNED = 15;
    public static final int TREATY_EXISTS = 16;
    public static final int COMMAND_REJECTED = 17;

    private static final int SOCKS = 14;
    private static final int DRAWERS = 5;
    private static final int SIZES = 9;
    private static final String COLOURS = "rgbw";
    private static final String CLAUSES = "osx";
    private static final char WHITE = 'w';
    private static final char SHORT = 's';
    private static final char EXCHANGE = 'x';

    private static final int FIRST_QUOTA = 3;
    private static final int QUOTA_MOST = 9;
    private static final int LEVEL_MOST = 3;
    private static final int VISA_DAYS = 10;
    private static final int SHORT_DAYS = 3;
    private static final int RENEWAL_MOST = 9;
    private static final int VISA_MOST = 20;
    private static final int DAYS_MOST = 20;
    private static final int CHANGES = 8;

    private static final int INPUT_MOST = 60;
    private static final int FIRST_CODE = 32;
    private static final int LAST_CODE = 126;
    // The shortest command has two characters, and a ";" stands between two commands.
    private static final int COMMANDS_MOST = 20;
    private static final int VALUES = 3;

    private static final int AWAY = 0;
    private static final int PENDING = 1;
    private static final int REFUSED = 2;
    private static final int RESIDENT = 3;

    /** Stands for no sock, no drawer, no offset and no element. */
    private static final int NONE = -1;

    // A fault is FINE, the reason of a rejection, or one of the codes below FINE.
    private static final int FINE = 0;
    private static final int BAD_INDEX = -1;
    private static final int BAD_ARGUMENT = -2;
    private static final int MISSING = -3;

    private final Checks checks = new Checks();
    private final Office office = checks.office;
    private final Office before = new Office();
    private final History history = new History();
    private final Commands commands = new Commands();
    private final StringBuilder output = new StringBuilder();
    private int latestReason = FINE;
    private int latestDetail = 0;
    private int latestCause = FINE;
    private int latestOffset = NONE;

    /** Creates an office without socks and treaties. */
    public SockEmbassy() {
    }

    // ---- socks

    /** Adds a sock, which is away, and returns its index. */
    public int addSock(char colour, int size) throws IllegalArgumentException, UnsupportedOperationException {
        require(checks.adding(colour, size));
        history.keep(office);
        return office.add(colour, size);
    }

    public int sockCount() {
        return office.count;
    }

    public char colourOf(int sock) throws IndexOutOfBoundsException {
        requireSock(sock);
        return office.colourAt(sock);
    }

    public int sizeOf(int sock) throws IndexOutOfBoundsException {
        requireSock(sock);
        return office.size[sock];
    }

    public boolean isAway(int sock) throws IndexOutOfBoundsException {
        requireSock(sock);
        return office.state[sock] == AWAY;
    }

    public boolean isPending(int sock) throws IndexOutOfBoundsException {
        requireSock(sock);
        return office.state[sock] == PENDING;
    }

    public boolean isRefused(int sock) throws IndexOutOfBoundsException {
        requireSock(sock);
        return office.state[sock] == REFUSED;
    }

    public boolean isResident(int sock) throws IndexOutOfBoundsException {
        requireSock(sock);
        return office.state[sock] == RESIDENT;
    }

    /** Returns the drawer of which a sock is a resident, or to which it has applied. */
    public int drawerOf(int sock) throws IndexOutOfBoundsException, NoSuchElementException {
        requireSock(sock);
        requireElement(office.state[sock] != AWAY);
        return office.drawer[sock];
    }

    public int levelOf(int sock) throws IndexOutOfBoundsException, NoSuchElementException {
        requireSock(sock);
        requireElement(office.hasApplication(sock));
        return office.level[sock];
    }

    public int visaDay(int sock) throws IndexOutOfBoundsException, NoSuchElementException {
        requireSock(sock);
        requireElement(office.state[sock] == RESIDENT);
        return office.lastDay[sock];
    }

    public int partnerOf(int sock) throws IndexOutOfBoundsException, NoSuchElementException {
        requireSock(sock);
        requireElement(office.partner[sock] != NONE);
        return office.partner[sock];
    }

    public boolean matches(int first, int second) throws IndexOutOfBoundsException {
        requireSock(first);
        requireSock(second);
        return office.match(first, second);
    }

    // ---- applications and visas

    /** Lets a sock apply to a drawer; returns the number of pending applications to it. */
    public int apply(int sock, int drawer) throws IndexOutOfBoundsException, UnsupportedOperationException {
        require(checks.applying(sock, drawer));
        history.keep(office);
        return office.file(sock, drawer);
    }

    /** Withdraws the application of a sock; returns the drawer to which it had applied. */
    public int withdraw(int sock) throws IndexOutOfBoundsException, UnsupportedOperationException {
        require(checks.withdrawing(sock));
        history.keep(office);
        return office.dropApplication(sock);
    }

    /** Lets a refused sock appeal; returns the level of its application. */
    public int appeal(int sock) throws IndexOutOfBoundsException, UnsupportedOperationException {
        require(checks.appealing(sock));
        history.keep(office);
        return office.raise(sock);
    }

    /** Decides all applications to a drawer; returns the number of socks that become residents. */
    public int decide(int drawer) throws IndexOutOfBoundsException {
        require(checks.deciding(drawer));
        history.keep(office);
        return office.decideAll(drawer);
    }

    /** Returns how many socks a decision on a drawer would admit now. */
    public int wouldAdmit(int drawer) throws IndexOutOfBoundsException {
        requireDrawer(drawer);
        return office.admissible(drawer);
    }

    /** Returns a pending sock in the order of decision. */
    public int queueAt(int drawer, int position) throws IndexOutOfBoundsException, NoSuchElementException {
        requireDrawer(drawer);
        int sock = office.queued(drawer, position);
        requireElement(sock != NONE);
        return sock;
    }

    public int pendingCount(int drawer) throws IndexOutOfBoundsException {
        requireDrawer(drawer);
        return office.countOf(PENDING, drawer);
    }

    /** Makes the last day of a visa later; returns it. */
    public int renew(int sock, int days)
            throws IndexOutOfBoundsException, IllegalArgumentException, UnsupportedOperationException {
        require(checks.renewing(sock, days));
        history.keep(office);
        return office.extend(sock, days);
    }

    /** Lets a resident leave; returns the days that were left of its visa. */
    public int leave(int sock) throws IndexOutOfBoundsException, UnsupportedOperationException {
        require(checks.leaving(sock));
        history.keep(office);
        return office.release(sock);
    }

    /** Moves a resident to another drawer by a treaty; returns the last day of its visa. */
    public int move(int sock, int drawer) throws IndexOutOfBoundsException, UnsupportedOperationException {
        require(checks.moving(sock, drawer));
        history.keep(office);
        return office.transfer(sock, drawer);
    }

    // ---- pairs

    /** Makes two residents a pair; returns the number of pairs in their drawer. */
    public int pair(int first, int second)
            throws IndexOutOfBoundsException, IllegalArgumentException, UnsupportedOperationException {
        require(checks.pairing(first, second));
        history.keep(office);
        return office.join(first, second);
    }

    /** Separates a pair; returns the other sock. */
    public int separate(int sock) throws IndexOutOfBoundsException, UnsupportedOperationException {
        require(checks.separating(sock));
        history.keep(office);
        return office.part(sock);
    }

    public int pairCount(int drawer) throws IndexOutOfBoundsException {
        requireDrawer(drawer);
        return office.pairsIn(drawer);
    }

    /** Returns how many pairs could be made in a drawer, found by trying. */
    public int possiblePairs(int drawer) throws IndexOutOfBoundsException {
        requireDrawer(drawer);
        return office.pairsByTrying(drawer);
    }

    /** Returns how many pairs could be made in a drawer, found by counting colours. */
    public int possiblePairsByColours(int drawer) throws IndexOutOfBoundsException {
        requireDrawer(drawer);
        return office.pairsByCounting(drawer);
    }

    // ---- drawers and treaties

    /** Sets the quota of a drawer; returns the previous one. */
    public int setQuota(int drawer, int quota) throws IndexOutOfBoundsException, IllegalArgumentException {
        require(checks.settingQuota(drawer, quota));
        history.keep(office);
        return office.changeQuota(drawer, quota);
    }

    /** Bans a colour from a drawer; returns whether it was not banned before. */
    public boolean ban(int drawer, char colour) throws IndexOutOfBoundsException, IllegalArgumentException {
        require(checks.banning(drawer, colour));
        history.keep(office);
        return office.forbid(drawer, colour);
    }

    /** Ends the ban of a colour; returns whether it was banned before. */
    public boolean unban(int drawer, char colour) throws IndexOutOfBoundsException, IllegalArgumentException {
        require(checks.banning(drawer, colour));
        history.keep(office);
        return office.permit(drawer, colour);
    }

    /** Signs a treaty between two drawers; returns the number of treaties. */
    public int signTreaty(int first, int second, char clause)
            throws IndexOutOfBoundsException, IllegalArgumentException, UnsupportedOperationException {
        require(checks.signing(first, second, clause));
        history.keep(office);
        return office.sign(first, second, clause);
    }

    /** Ends the treaty between two drawers; returns the number of treaties. */
    public int endTreaty(int first, int second) throws IndexOutOfBoundsException, NoSuchElementException {
        require(checks.endingTreaty(first, second));
        history.keep(office);
        return office.cancel(first, second);
    }

    public char clauseOf(int first, int second) throws IndexOutOfBoundsException, NoSuchElementException {
        requireDrawer(first);
        requireDrawer(second);
        requireElement(office.hasTreaty(first, second));
        return (char) office.clauseBetween(first, second);
    }

    public int quotaOf(int drawer) throws IndexOutOfBoundsException {
        requireDrawer(drawer);
        return office.quota[drawer];
    }

    public int residents(int drawer) throws IndexOutOfBoundsException {
        requireDrawer(drawer);
        return office.countOf(RESIDENT, drawer);
    }

    /** Returns a resident of a drawer; residents are ordered by index. */
    public int residentAt(int drawer, int position) throws IndexOutOfBoundsException, NoSuchElementException {
        requireDrawer(drawer);
        int sock = office.resident(drawer, position);
        requireElement(sock != NONE);
        return sock;
    }

    public boolean isBanned(int drawer, char colour) throws IndexOutOfBoundsException, IllegalArgumentException {
        require(checks.banning(drawer, colour));
        return office.bans(drawer, colour);
    }

    /** Tells whether move would not be rejected now. */
    public boolean canMove(int sock, int drawer) throws IndexOutOfBoundsException {
        requireSock(sock);
        requireDrawer(drawer);
        return checks.moving(sock, drawer) == FINE;
    }

    // ---- days and totals

    /** Lets days pass; returns the number of residents that are expelled. */
    public int passDays(int days) throws IllegalArgumentException {
        require(checks.passing(days));
        history.keep(office);
        return office.advance(days);
    }

    public int day() {
        return office.today;
    }

    /** Returns how many residents would be expelled if some days passed now. */
    public int wouldExpel(int days) throws IllegalArgumentException {
        require(checks.passing(days));
        return office.expiring(office.today + days);
    }

    /** Returns the number of socks that have become residents by decisions so far. */
    public int admittedCount() {
        return office.admitted;
    }

    /** Returns the number of applications that have been refused so far. */
    public int refusedCount() {
        return office.refused;
    }

    public int expelledCount() {
        return office.expelled;
    }

    public int admissionBalance() {
        return office.admitted - office.expelled;
    }

    /** Returns a drawer in the order of residents, then of pairs, the most first, then of indices. */
    public int drawerByResidents(int position) throws NoSuchElementException {
        int drawer = office.rankedDrawer(position);
        requireElement(drawer != NONE);
        return drawer;
    }

    public double meanSize() throws ArithmeticException {
        requireSocks();
        return (double) office.sizeSum() / (double) office.count;
    }

    public float residentShare() throws ArithmeticException {
        requireSocks();
        return (float) office.residentSum() / (float) office.count;
    }

    /** Checks that both counts of possible pairs agree, and that all pairs are sound. */
    public boolean isConsistent() {
        return office.countsAgree() && office.pairsAreSound();
    }

    // ---- text output

    /** Writes a sock to the output, in place of the earlier output; returns its length. */
    public int writeSock(int sock) throws IndexOutOfBoundsException {
        requireSock(sock);
        output.setLength(0);
        output.append(sock).append(':').append(office.colourAt(sock)).append(office.size[sock]);
        if (office.state[sock] == AWAY) {
            output.append('-');
        } else if (office.state[sock] == RESIDENT) {
            writeVisa(sock);
        } else {
            writeApplication(sock);
        }
        return output.length();
    }

    public char outputAt(int index) throws IndexOutOfBoundsException {
        requireIndex(index >= 0 && index < output.length());
        return output.charAt(index);
    }

    // ---- commands

    /** Appends a character to the input; returns the length of the input. */
    public int appendInput(char character) throws IllegalArgumentException, IllegalStateException {
        requireArgument(character >= FIRST_CODE && character <= LAST_CODE);
        requireState(commands.length < INPUT_MOST);
        return commands.append(character);
    }

    /** Executes the commands of the input, all of them or none; returns their number. */
    public int execute()
            throws IllegalArgumentException, IllegalStateException, UnsupportedOperationException {
        int offset = commands.read();
        if (offset != NONE) {
            latestOffset = offset;
        }
        requireArgument(offset == NONE);
        before.copyFrom(office);
        int done = carryOutCommands();
        if (done < commands.count) {
            int fault = faultOf(done);
            office.copyFrom(before);
            requireState(fault > FINE);
            reject(COMMAND_REJECTED, done, fault);
        }
        history.keep(before);
        return done;
    }

    public int syntaxErrorOffset() throws NoSuchElementException {
        requireElement(latestOffset != NONE);
        return latestOffset;
    }

    // ---- rejections and history

    public int rejectionReason() throws NoSuchElementException {
        requireElement(latestReason != FINE);
        return latestReason;
    }

    public int rejectionDetail() throws NoSuchElementException {
        requireElement(latestReason != FINE);
        return latestDetail;
    }

    /** Returns the reason of the command that caused the latest rejection. */
    public int causeReason() throws NoSuchElementException {
        requireElement(latestReason == COMMAND_REJECTED);
        return latestCause;
    }

    /** Undoes the latest change; returns the number of changes that can still be undone. */
    public int undo() throws IllegalStateException {
        requireState(history.kept > 0);
        return history.takeBack(office);
    }

    /** Saves a snapshot of the data; returns the number of socks. */
    public int saveSnapshot() {
        history.save(office);
        return office.count;
    }

    /** Restores the snapshot; returns the number of socks. */
    public int restoreSnapshot() throws IllegalStateException {
        requireState(history.saved);
        history.restore(office);
        return office.count;
    }

    // ---- exceptions

    private void requireIndex(boolean valid) {
        if (!valid) {
            throw new IndexOutOfBoundsException("there is nothing with this index");
        }
    }

    private void requireArgument(boolean valid) {
        if (!valid) {
            throw new IllegalArgumentException("an argument or the input is not valid");
        }
    }

    private void requireElement(boolean found) {
        if (!found) {
            throw new NoSuchElementException("there is no such element");
        }
    }

    private void requireState(boolean ready) {
        if (!ready) {
            throw new IllegalStateException("the call is not possible now");
        }
    }

    private void requireSocks() {
        if (office.count == 0) {
            throw new ArithmeticException("there are no socks");
        }
    }

    private void requireSock(int sock) {
        requireIndex(office.isSock(sock));
    }

    private void requireDrawer(int drawer) {
        requireIndex(Office.isDrawer(drawer));
    }

    private void require(int fault) {
        requireIndex(fault != BAD_INDEX);
        requireArgument(fault != BAD_ARGUMENT);
        requireElement(fault != MISSING);
        if (fault != FINE) {
            reject(fault, checks.detail, FINE);
        }
    }

    /** Notes a rejection and always throws. */
    private void reject(int reason, int detail, int cause) {
        latestReason = reason;
        latestDetail = detail;
        latestCause = cause;
        throw new UnsupportedOperationException("the call is rejected");
    }

    // ---- the text of a sock

    private void writeApplication(int sock) {
        output.append(office.state[sock] == PENDING ? '?' : 'x');
        output.append(office.drawer[sock]).append('/').append(office.level[sock]);
    }

    private void writeVisa(int sock) {
        output.append('@').append(office.drawer[sock]).append('<').append(office.lastDay[sock]);
        if (office.partner[sock] != NONE) {
            output.append('+').append(office.partner[sock]);
        }
    }

    // ---- the commands that have been read

    /** Carries out commands up to the first that fails; returns how many. */
    private int carryOutCommands() {
        for (int command = 0; command < commands.count; command++) {
            if (faultOf(command) != FINE) {
                return command;
            }
            carryOut(command);
        }
        return commands.count;
    }

    private int faultOf(int command) {
        int first = commands.value(command, 0);
        int second = commands.value(command, 1);
        switch (commands.letter(command)) {
            case 'n': return checks.adding((char) first, second);
            case 'a': return checks.applying(first, second);
            case 'w': return checks.withdrawing(first);
            case 'p': return checks.appealing(first);
            case 'd': return checks.deciding(first);
            case 'r': return checks.renewing(first, second);
            case 'l': return checks.leaving(first);
            case 'm': return checks.moving(first, second);
            case 'j': return checks.pairing(first, second);
            case 'k': return checks.separating(first);
            case 'q': return checks.settingQuota(first, second);
            case 'b':
            case 'u': return checks.banning(first, (char) second);
            case 't': return checks.signing(first, second, (char) commands.value(command, 2));
            case 'e': return checks.endingTreaty(first, second);
            default: return checks.passing(first);
        }
    }

    /** Carries out a command that has no fault. */
    private void carryOut(int command) {
        int first = commands.value(command, 0);
        int second = commands.value(command, 1);
        switch (commands.letter(command)) {
            case 'n': office.add((char) first, second); break;
            case 'a': office.file(first, second); break;
            case 'w': office.dropApplication(first); break;
            case 'p': office.raise(first); break;
            case 'd': office.decideAll(first); break;
            case 'r': office.extend(first, second); break;
            case 'l': office.release(first); break;
            case 'm': office.transfer(first, second); break;
            case 'j': office.join(first, second); break;
            case 'k': office.part(first); break;
            case 'q': office.changeQuota(first, second); break;
            case 'b': office.forbid(first, (char) second); break;
            case 'u': office.permit(first, (char) second); break;
            case 't': office.sign(first, second, (char) commands.value(command, 2)); break;
            case 'e': office.cancel(first, second); break;
            default: office.advance(first); break;
        }
    }

    /** What undo and the snapshot cover. Its changes expect arguments that Checks has found FINE. */
    private static final class Office {
        int count;
        int today;
        int admitted;
        int refused;
        int expelled;
        final int[] colour = new int[SOCKS];
        final int[] size = new int[SOCKS];
        final int[] state = new int[SOCKS];
        final int[] drawer = new int[SOCKS];
        final int[] level = new int[SOCKS];
        final int[] applied = new int[SOCKS];
        final int[] lastDay = new int[SOCKS];
        final int[] partner = new int[SOCKS];
        final int[] quota = new int[DRAWERS];
        // A bit for each colour, in the order of COLOURS.
        final int[] banned = new int[DRAWERS];
        // A row for each drawer; a treaty stands in the rows of both drawers, and 0 is no treaty.
        final int[] clauses = new int[DRAWERS * DRAWERS];

        Office() {
            for (int i = 0; i < DRAWERS; i++) {
                quota[i] = FIRST_QUOTA;
            }
        }

        void copyFrom(Office other) {
            count = other.count;
            today = other.today;
            admitted = other.admitted;
            refused = other.refused;
            expelled = other.expelled;
            copyRow(other.colour, colour);
            copyRow(other.size, size);
            copyRow(other.state, state);
            copyRow(other.drawer, drawer);
            copyRow(other.level, level);
            copyRow(other.applied, applied);
            copyRow(other.lastDay, lastDay);
            copyRow(other.partner, partner);
            copyRow(other.quota, quota);
            copyRow(other.banned, banned);
            copyRow(other.clauses, clauses);
        }

        private static void copyRow(int[] from, int[] to) {
            System.arraycopy(from, 0, to, 0, Math.min(from.length, to.length));
        }

        // ---- what there is

        boolean isSock(int sock) {
            return sock >= 0 && sock < count;
        }

        static boolean isDrawer(int place) {
            return place >= 0 && place < DRAWERS;
        }

        char colourAt(int sock) {
            return (char) colour[sock];
        }

        boolean hasApplication(int sock) {
            return state[sock] == PENDING || state[sock] == REFUSED;
        }

        /** Tells whether a sock has a state and a drawer. */
        boolean is(int sock, int wanted, int place) {
            return state[sock] == wanted && drawer[sock] == place;
        }

        boolean match(int first, int second) {
            boolean coloursFit = colour[first] == colour[second]
                    || colour[first] == WHITE || colour[second] == WHITE;
            return first != second && size[first] == size[second] && coloursFit;
        }

        int countOf(int wanted, int place) {
            int found = 0;
            for (int sock = 0; sock < count; sock++) {
                if (state[sock] == wanted && drawer[sock] == place) {
                    found++;
                }
            }
            return found;
        }

        int resident(int place, int position) {
            int ahead = 0;
            for (int sock = 0; sock < count; sock++) {
                if (is(sock, RESIDENT, place)) {
                    if (ahead == position) {
                        return sock;
                    }
                    ahead++;
                }
            }
            return NONE;
        }

        boolean hasRoom(int place) {
            return countOf(RESIDENT, place) < quota[place];
        }

        boolean bans(int place, char shade) {
            return hasBit(banned[place], COLOURS.indexOf(shade));
        }

        private static boolean hasBit(int bits, int number) {
            return (bits >> number & 1) == 1;
        }

        // ---- socks, applications and visas

        int add(char shade, int width) {
            int sock = count;
            colour[sock] = shade;
            size[sock] = width;
            state[sock] = AWAY;
            partner[sock] = NONE;
            count++;
            return sock;
        }

        int file(int sock, int place) {
            state[sock] = PENDING;
            drawer[sock] = place;
            level[sock] = 1;
            applied[sock] = today;
            return countOf(PENDING, place);
        }

        int dropApplication(int sock) {
            state[sock] = AWAY;
            return drawer[sock];
        }

        int raise(int sock) {
            state[sock] = PENDING;
            level[sock]++;
            applied[sock] = today;
            return level[sock];
        }

        int decideAll(int place) {
            int admittedBefore = admitted;
            int applications = countOf(PENDING, place);
            for (int i = 0; i < applications; i++) {
                int sock = queued(place, 0);
                if (sock != NONE) {
                    decideOne(sock, place);
                }
            }
            return admitted - admittedBefore;
        }

        private void decideOne(int sock, int place) {
            if (hasRoom(place) && !bans(place, colourAt(sock))) {
                state[sock] = RESIDENT;
                lastDay[sock] = today + VISA_DAYS;
                admitted++;
            } else {
                state[sock] = REFUSED;
                refused++;
            }
        }

        int admissible(int place) {
            int allowed = 0;
            for (int sock = 0; sock < count; sock++) {
                if (is(sock, PENDING, place) && !bans(place, colourAt(sock))) {
                    allowed++;
                }
            }
            // A quota that was lowered can leave more residents than it says.
            int room = Math.max(0, quota[place] - countOf(RESIDENT, place));
            return Math.min(allowed, room);
        }

        /** Returns the pending sock that has as many others ahead of it as the position says, or NONE. */
        int queued(int place, int position) {
            for (int sock = 0; sock < count; sock++) {
                if (is(sock, PENDING, place) && queuedAhead(sock, place) == position) {
                    return sock;
                }
            }
            return NONE;
        }

        private int queuedAhead(int sock, int place) {
            int ahead = 0;
            for (int other = 0; other < count; other++) {
                if (is(other, PENDING, place) && isDecidedAhead(other, sock)) {
                    ahead++;
                }
            }
            return ahead;
        }

        private boolean isDecidedAhead(int first, int second) {
            if (level[first] != level[second]) {
                return level[first] > level[second];
            }
            if (applied[first] != applied[second]) {
                return applied[first] < applied[second];
            }
            return first < second;
        }

        int extend(int sock, int days) {
            lastDay[sock] += days;
            return lastDay[sock];
        }

        int release(int sock) {
            state[sock] = AWAY;
            return lastDay[sock] - today;
        }

        int transfer(int sock, int place) {
            if (clauseBetween(drawer[sock], place) == SHORT) {
                lastDay[sock] = Math.min(lastDay[sock], today + SHORT_DAYS);
            }
            drawer[sock] = place;
            return lastDay[sock];
        }

        // ---- pairs

        int join(int first, int second) {
            partner[first] = second;
            partner[second] = first;
            return pairsIn(drawer[first]);
        }

        int part(int sock) {
            int other = partner[sock];
            partner[sock] = NONE;
            if (isSock(other)) {
                partner[other] = NONE;
            }
            return other;
        }

        int pairsIn(int place) {
            int paired = 0;
            for (int sock = 0; sock < count; sock++) {
                if (is(sock, RESIDENT, place) && partner[sock] != NONE) {
                    paired++;
                }
            }
            return paired / 2;
        }

        private boolean isSingle(int sock, int place) {
            return is(sock, RESIDENT, place) && partner[sock] == NONE;
        }

        int pairsByTrying(int place) {
            int free = 0;
            for (int sock = 0; sock < count; sock++) {
                if (isSingle(sock, place)) {
                    free |= 1 << sock;
                }
            }
            return mostPairs(this, free, 0);
        }

        /** Tries no partner and every partner for the first sock; free has bits for it and those behind it. */
        private static int mostPairs(Office office, int free, int first) {
            if (first >= office.count) {
                return 0;
            }
            if (!hasBit(free, first)) {
                return mostPairs(office, free, first + 1);
            }
            int others = free & ~(1 << first);
            // No more trials are needed where all free socks, but for an odd one, are in pairs.
            int limit = Integer.bitCount(free) / 2;
            int most = mostPairs(office, others, first + 1);
            for (int other = first + 1; other < office.count && most < limit; other++) {
                if (hasBit(others, other) && office.match(first, other)) {
                    most = Math.max(most, 1 + mostPairs(office, others & ~(1 << other), first + 1));
                }
            }
            return most;
        }

        int pairsByCounting(int place) {
            int pairs = 0;
            for (int width = 1; width <= SIZES; width++) {
                pairs += pairsOfSize(place, width);
            }
            return pairs;
        }

        /** Pairs equal colours first, then the socks left over with white ones, then white ones. */
        private int pairsOfSize(int place, int width) {
            int pairs = 0;
            int leftOver = 0;
            for (int i = 0; i < COLOURS.length(); i++) {
                if (COLOURS.charAt(i) != WHITE) {
                    int singles = singles(place, width, COLOURS.charAt(i));
                    pairs += singles / 2;
                    leftOver += singles % 2;
                }
            }
            int whites = singles(place, width, WHITE);
            int mixed = Math.min(leftOver, whites);
            return pairs + mixed + (whites - mixed) / 2;
        }

        private int singles(int place, int width, char shade) {
            int found = 0;
            for (int sock = 0; sock < count; sock++) {
                if (isSingle(sock, place) && size[sock] == width && colour[sock] == shade) {
                    found++;
                }
            }
            return found;
        }

        boolean countsAgree() {
            for (int place = 0; place < DRAWERS; place++) {
                if (pairsByTrying(place) != pairsByCounting(place)) {
                    return false;
                }
            }
            return true;
        }

        boolean pairsAreSound() {
            for (int sock = 0; sock < count; sock++) {
                if (partner[sock] != NONE && !isSoundPair(sock, partner[sock])) {
                    return false;
                }
            }
            return true;
        }

        private boolean isSoundPair(int first, int second) {
            return isSock(second) && partner[second] == first && match(first, second)
                    && state[first] == RESIDENT && is(second, RESIDENT, drawer[first]);
        }

        // ---- drawers and treaties

        int changeQuota(int place, int number) {
            int previous = quota[place];
            quota[place] = number;
            return previous;
        }

        boolean forbid(int place, char shade) {
            boolean isNew = !bans(place, shade);
            banned[place] |= 1 << COLOURS.indexOf(shade);
            return isNew;
        }

        boolean permit(int place, char shade) {
            boolean wasBanned = bans(place, shade);
            banned[place] &= ~(1 << COLOURS.indexOf(shade));
            return wasBanned;
        }

        int clauseBetween(int first, int second) {
            return clauses[first * DRAWERS + second];
        }

        boolean hasTreaty(int first, int second) {
            return clauseBetween(first, second) != 0;
        }

        int sign(int first, int second, char clause) {
            clauses[first * DRAWERS + second] = clause;
            clauses[second * DRAWERS + first] = clause;
            return treaties();
        }

        int cancel(int first, int second) {
            clauses[first * DRAWERS + second] = 0;
            clauses[second * DRAWERS + first] = 0;
            return treaties();
        }

        int treaties() {
            int found = 0;
            for (int i = 0; i < clauses.length; i++) {
                if (clauses[i] != 0) {
                    found++;
                }
            }
            return found / 2;
        }

        // ---- days and totals

        int advance(int days) {
            int expelledBefore = expelled;
            for (int i = 0; i < days; i++) {
                today++;
                expelAll();
            }
            return expelled - expelledBefore;
        }

        private void expelAll() {
            for (int sock = 0; sock < count; sock++) {
                if (expires(sock, today)) {
                    state[sock] = AWAY;
                    expelled++;
                }
            }
        }

        private boolean expires(int sock, int date) {
            return state[sock] == RESIDENT && partner[sock] == NONE && lastDay[sock] < date;
        }

        int expiring(int date) {
            int found = 0;
            for (int sock = 0; sock < count; sock++) {
                if (expires(sock, date)) {
                    found++;
                }
            }
            return found;
        }

        int rankedDrawer(int position) {
            for (int place = 0; place < DRAWERS; place++) {
                if (rankedAhead(place) == position) {
                    return place;
                }
            }
            return NONE;
        }

        private int rankedAhead(int place) {
            int ahead = 0;
            for (int other = 0; other < DRAWERS; other++) {
                if (ranksAhead(other, place)) {
                    ahead++;
                }
            }
            return ahead;
        }

        private boolean ranksAhead(int first, int second) {
            int more = countOf(RESIDENT, first) - countOf(RESIDENT, second);
            if (more != 0) {
                return more > 0;
            }
            int morePairs = pairsIn(first) - pairsIn(second);
            return morePairs != 0 ? morePairs > 0 : first < second;
        }

        int sizeSum() {
            int sum = 0;
            for (int sock = 0; sock < count; sock++) {
                sum += size[sock];
            }
            return sum;
        }

        int residentSum() {
            int sum = 0;
            for (int place = 0; place < DRAWERS; place++) {
                sum += countOf(RESIDENT, place);
            }
            return sum;
        }
    }

    /** Tells the fault of a change that is asked for. Nothing is changed but the detail. */
    private static final class Checks {
        final Office office = new Office();
        /** The detail of the latest fault that is a reason. */
        int detail;

        private int because(int reason, int itsDetail) {
            detail = itsDetail;
            return reason;
        }

        int adding(char colour, int size) {
            if (COLOURS.indexOf(colour) < 0 || size < 1 || size > SIZES) {
                return BAD_ARGUMENT;
            }
            return office.count >= SOCKS ? because(SOCK_LIMIT, SOCKS) : FINE;
        }

        int applying(int sock, int drawer) {
            if (!office.isSock(sock) || !Office.isDrawer(drawer)) {
                return BAD_INDEX;
            }
            return office.state[sock] != AWAY ? because(NOT_AWAY, office.drawer[sock]) : FINE;
        }

        int withdrawing(int sock) {
            if (!office.isSock(sock)) {
                return BAD_INDEX;
            }
            return office.hasApplication(sock) ? FINE : because(NO_APPLICATION, sock);
        }

        int appealing(int sock) {
            if (!office.isSock(sock)) {
                return BAD_INDEX;
            }
            if (office.state[sock] != REFUSED) {
                return because(NOT_REFUSED, sock);
            }
            return office.level[sock] >= LEVEL_MOST ? because(FINAL_LEVEL, office.drawer[sock]) : FINE;
        }

        int deciding(int drawer) {
            return Office.isDrawer(drawer) ? FINE : BAD_INDEX;
        }

        int renewing(int sock, int days) {
            if (!office.isSock(sock)) {
                return BAD_INDEX;
            }
            if (days < 1 || days > RENEWAL_MOST) {
                return BAD_ARGUMENT;
            }
            if (office.state[sock] != RESIDENT) {
                return because(NOT_RESIDENT, sock);
            }
            int present = office.lastDay[sock];
            return present + days > office.today + VISA_MOST ? because(VISA_LIMIT, present) : FINE;
        }

        int leaving(int sock) {
            if (!office.isSock(sock)) {
                return BAD_INDEX;
            }
            if (office.state[sock] != RESIDENT) {
                return because(NOT_RESIDENT, sock);
            }
            int partner = office.partner[sock];
            return partner != NONE ? because(PAIRED, partner) : FINE;
        }

        int moving(int sock, int drawer) {
            if (!Office.isDrawer(drawer)) {
                return BAD_INDEX;
            }
            int fault = leaving(sock);
            return fault != FINE ? fault : crossing(sock, office.drawer[sock], drawer);
        }

        private int crossing(int sock, int from, int to) {
            int clause = office.clauseBetween(from, to);
            if (clause == 0) {
                return because(NO_TREATY, from);
            }
            int residents = office.countOf(RESIDENT, from);
            if (clause == EXCHANGE && office.countOf(RESIDENT, to) >= residents) {
                return because(CLAUSE, residents);
            }
            if (!office.hasRoom(to)) {
                return because(QUOTA, office.quota[to]);
            }
            return office.bans(to, office.colourAt(sock)) ? because(BANNED, sock) : FINE;
        }

        int pairing(int first, int second) {
            if (!office.isSock(first) || !office.isSock(second)) {
                return BAD_INDEX;
            }
            if (first == second) {
                return BAD_ARGUMENT;
            }
            if (office.state[first] != RESIDENT) {
                return because(NOT_RESIDENT, first);
            }
            if (office.state[second] != RESIDENT) {
                return because(NOT_RESIDENT, second);
            }
            if (office.drawer[first] != office.drawer[second]) {
                return because(OTHER_DRAWER, office.drawer[second]);
            }
            return joining(first, second);
        }

        private int joining(int first, int second) {
            if (office.partner[first] != NONE) {
                return because(PAIRED, office.partner[first]);
            }
            if (office.partner[second] != NONE) {
                return because(PAIRED, office.partner[second]);
            }
            return office.match(first, second) ? FINE : because(NO_MATCH, office.size[second]);
        }

        int separating(int sock) {
            if (!office.isSock(sock)) {
                return BAD_INDEX;
            }
            return office.partner[sock] == NONE ? because(NOT_PAIRED, sock) : FINE;
        }

        int settingQuota(int drawer, int quota) {
            if (!Office.isDrawer(drawer)) {
                return BAD_INDEX;
            }
            return quota < 0 || quota > QUOTA_MOST ? BAD_ARGUMENT : FINE;
        }

        int banning(int drawer, char colour) {
            if (!Office.isDrawer(drawer)) {
                return BAD_INDEX;
            }
            return COLOURS.indexOf(colour) < 0 ? BAD_ARGUMENT : FINE;
        }

        int signing(int first, int second, char clause) {
            if (!Office.isDrawer(first) || !Office.isDrawer(second)) {
                return BAD_INDEX;
            }
            if (first == second || CLAUSES.indexOf(clause) < 0) {
                return BAD_ARGUMENT;
            }
            return office.hasTreaty(first, second) ? because(TREATY_EXISTS, office.treaties()) : FINE;
        }

        int endingTreaty(int first, int second) {
            if (!Office.isDrawer(first) || !Office.isDrawer(second)) {
                return BAD_INDEX;
            }
            return office.hasTreaty(first, second) ? FINE : MISSING;
        }

        int passing(int days) {
            return days < 1 || days > DAYS_MOST ? BAD_ARGUMENT : FINE;
        }
    }

    /** The input, and the commands that are read from it. */
    private static final class Commands {
        private final char[] text = new char[INPUT_MOST];
        private final int[] letters = new int[COMMANDS_MOST];
        private final int[] values = new int[COMMANDS_MOST * VALUES];
        int length;
        int count;
        private int at;
        private int filled;

        int append(char character) {
            if (length < INPUT_MOST) {
                text[length] = character;
                length++;
            }
            return length;
        }

        int letter(int command) {
            return command >= 0 && command < count ? letters[command] : 0;
        }

        int value(int command, int which) {
            return command >= 0 && command < count ? values[command * VALUES + which] : 0;
        }

        /** Reads the input and empties it; returns the offset of its syntax error, or NONE. */
        int read() {
            count = 0;
            int offset = readAll();
            length = 0;
            return offset;
        }

        private int readAll() {
            at = 0;
            for (int round = 0; round <= COMMANDS_MOST; round++) {
                if (!readCommand()) {
                    return at;
                }
                if (at >= length) {
                    return NONE;
                }
                if (here() != ';') {
                    return at;
                }
                at++;
            }
            return at;
        }

        /** Reads a command and stops behind it, or at the first character that it cannot have. */
        private boolean readCommand() {
            String form = formOf(here());
            if (form.isEmpty() || count >= COMMANDS_MOST) {
                return false;
            }
            letters[count] = here();
            at++;
            filled = 0;
            for (int i = 0; i < form.length(); i++) {
                if (!readPart(form.charAt(i))) {
                    return false;
                }
            }
            count++;
            return true;
        }

        /** What follows a letter: N a number, D a digit, C a colour, T a clause, or the sign itself. */
        private static String formOf(int letter) {
            switch (letter) {
                case 'n': return "CD";
                case 'a':
                case 'm': return "N>D";
                case 'w':
                case 'p':
                case 'l':
                case 'k':
                case 'y': return "N";
                case 'd': return "D";
                case 'r': return "N+D";
                case 'j': return "N&N";
                case 'q': return "D=D";
                case 'b':
                case 'u': return "DC";
                case 't': return "DDT";
                case 'e': return "DD";
                default: return "";
            }
        }

        /** Returns the present character, or 0 at the end of the input. */
        private char here() {
            return at >= 0 && at < length ? text[at] : (char) 0;
        }

        private static boolean isDigit(char sign) {
            return sign >= '0' && sign <= '9';
        }

        private boolean readPart(int part) {
            switch (part) {
                case 'N': return readNumber();
                case 'D': return readDigit();
                case 'C': return readOneOf(COLOURS);
                case 'T': return readOneOf(CLAUSES);
                default: return readSign(part);
            }
        }

        private boolean readNumber() {
            if (!isDigit(here())) {
                return false;
            }
            int number = here() - '0';
            at++;
            if (isDigit(here())) {
                number = number * 10 + here() - '0';
                at++;
            }
            put(number);
            return true;
        }

        private boolean readDigit() {
            if (!isDigit(here())) {
                return false;
            }
            put(here() - '0');
            at++;
            return true;
        }

        private boolean readOneOf(String signs) {
            if (signs.indexOf(here()) < 0) {
                return false;
            }
            put(here());
            at++;
            return true;
        }

        private boolean readSign(int sign) {
            if (here() != sign) {
                return false;
            }
            at++;
            return true;
        }

        private void put(int value) {
            if (filled < VALUES) {
                values[count * VALUES + filled] = value;
                filled++;
            }
        }
    }

    /** The data ahead of the latest changes, and the snapshot. */
    private static final class History {
        private final Office[] past = new Office[CHANGES];
        private final Office snapshot = new Office();
        private int next;
        int kept;
        boolean saved;

        History() {
            for (int i = 0; i < CHANGES; i++) {
                past[i] = new Office();
            }
        }

        /** Keeps the data ahead of a change; the oldest one is lost when there are too many. */
        void keep(Office office) {
            past[next].copyFrom(office);
            next = (next + 1) % CHANGES;
            kept = Math.min(kept + 1, CHANGES);
        }

        int takeBack(Office office) {
            next = (next + CHANGES - 1) % CHANGES;
            kept--;
            office.copyFrom(past[next]);
            return kept;
        }

        void save(Office office) {
            snapshot.copyFrom(office);
            saved = true;
        }

        void restore(Office office) {
            office.copyFrom(snapshot);
            kept = 0;
        }
    }
}
