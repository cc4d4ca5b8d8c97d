import java.util.regex.Matcher;
import java.util.regex.Pattern;

/** Makes offices by words like the commands of the document, each carried out by a call of its own. */
final class Make {
    // Sock 0 is away, 1 pending, 2 refused, 3 and 4 a pair of residents, 5 a single resident.
    static final String STATES = "nr1 ng2 nb3 nw4 ng4 nr9 q1=0 a2>1 d1 a1>2 a3>3 a4>3 a5>3 d3 j3&4";

    private static final Pattern NUMBER = Pattern.compile("[0-9]+");

    private Make() {
    }

    static SockEmbassy office(String words) {
        SockEmbassy office = new SockEmbassy();
        run(office, words);
        return office;
    }

    static void run(SockEmbassy office, String words) {
        for (String word : words.trim().split(" +")) {
            if (!word.isEmpty()) {
                runOne(office, word);
            }
        }
    }

    static void type(SockEmbassy office, String text) {
        for (char character : text.toCharArray()) {
            office.appendInput(character);
        }
    }

    static int execute(SockEmbassy office, String text) {
        type(office, text);
        return office.execute();
    }

    private static void runOne(SockEmbassy office, String word) {
        int a = number(word, 0);
        int b = number(word, 1);
        char last = word.charAt(word.length() - 1);
        switch (word.charAt(0)) {
            case 'n': office.addSock(word.charAt(1), last - '0'); break;
            case 'a': office.apply(a, b); break;
            case 'w': office.withdraw(a); break;
            case 'p': office.appeal(a); break;
            case 'd': office.decide(a); break;
            case 'r': office.renew(a, b); break;
            case 'l': office.leave(a); break;
            case 'm': office.move(a, b); break;
            case 'j': office.pair(a, b); break;
            case 'k': office.separate(a); break;
            case 'q': office.setQuota(a, b); break;
            case 'b': office.ban(a, last); break;
            case 'u': office.unban(a, last); break;
            case 't': office.signTreaty(a / 10, a % 10, last); break;
            case 'e': office.endTreaty(a / 10, a % 10); break;
            case 'y': office.passDays(a); break;
            default: throw new IllegalArgumentException(word);
        }
    }

    private static int number(String word, int which) {
        Matcher numbers = NUMBER.matcher(word);
        int found = 0;
        for (int i = 0; i <= which && numbers.find(); i++) {
            found = Integer.parseInt(numbers.group());
        }
        return found;
    }
}
