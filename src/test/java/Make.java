import java.util.regex.Matcher;
import java.util.regex.Pattern;

/**
 * Makes offices by words like the commands of the document, each carried out by a call of its own. Further words are
 * "i" with a text for the input, "x" to execute it, "o" and a number to write a sock, "U" to undo, "S" to save and "R"
 * to restore the snapshot. What a word behind "!" throws is ignored.
 */
final class Make {
    // Sock 0 is away, 1 pending, 2 refused, 3 and 4 a pair of residents, 5 a single resident.
    static final String STATES = "nr1 ng2 nb3 nw4 ng4 nr9 q1=0 a2>1 d1 a1>2 a3>3 a4>3 a5>3 d3 j3&4";
    // A syntax error, a rejected command, a snapshot and an output, all without a change.
    static final String NOTES = " iy !x it12x;t12x !x S !o0";
    // The same, with an input.
    static final String NOTED = NOTES + " iy3";

    private static final Pattern NUMBER = Pattern.compile("[0-9]+");

    private Make() {
    }

    static SockEmbassy office(String words) {
        SockEmbassy office = new SockEmbassy();
        run(office, words);
        return office;
    }

    static void run(SockEmbassy office, String words) {
        for (String word : words.trim().split(" +")) {
            if (word.startsWith("!")) {
                Expect.answer(() -> {
                    runOne(office, word.substring(1));
                    return word;
                });
            } else if (!word.isEmpty()) {
                runOne(office, word);
            }
        }
    }

    static void type(SockEmbassy office, String text) {
        for (char character : text.toCharArray()) {
            office.appendInput(character);
        }
    }

    static int execute(SockEmbassy office, String text) {
        type(office, text);
        return office.execute();
    }

    private static void runOne(SockEmbassy office, String word) {
        int a = number(word, 0);
        int b = number(word, 1);
        char last = word.charAt(word.length() - 1);
        switch (word.charAt(0)) {
            case 'n': office.addSock(word.charAt(1), last - '0'); break;
            case 'a': office.apply(a, b); break;
            case 'w': office.withdraw(a); break;
            case 'p': office.appeal(a); break;
            case 'd': office.decide(a); break;
            case 'r': office.renew(a, b); break;
            case 'l': office.leave(a); break;
            case 'm': office.move(a, b); break;
            case 'j': office.pair(a, b); break;
            case 'k': office.separate(a); break;
            case 'q': office.setQuota(a, b); break;
            case 'b': office.ban(a, last); break;
            case 'u': office.unban(a, last); break;
            case 't': office.signTreaty(a / 10, a % 10, last); break;
            case 'e': office.endTreaty(a / 10, a % 10); break;
            case 'y': office.passDays(a); break;
            default: runOther(office, word, a); break;
        }
    }

    private static void runOther(SockEmbassy office, String word, int a) {
        switch (word.charAt(0)) {
            case 'i': type(office, word.substring(1)); break;
            case 'x': office.execute(); break;
            case 'o': office.writeSock(a); break;
            case 'U': office.undo(); break;
            case 'S': office.saveSnapshot(); break;
            case 'R': office.restoreSnapshot(); break;
            default: throw new IllegalArgumentException(word);
        }
    }

    private static int number(String word, int which) {
        Matcher numbers = NUMBER.matcher(word);
        int found = 0;
        for (int i = 0; i <= which && numbers.find(); i++) {
            found = Integer.parseInt(numbers.group());
        }
        return found;
    }
}
