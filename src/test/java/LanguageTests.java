import java.util.Set;
import java.util.TreeSet;
import java.util.regex.Matcher;
import java.util.regex.Pattern;

/** What a reader of the text alone can tell of the rules of LANGUAGE.md. */
final class LanguageTests {
    private static final String[] BANNED_WORDS = {"try", "catch", "finally", "synchronized", "assert",
        "package", "protected", "native", "volatile", "transient", "yield", "var", "Object", "Math.random",
        "equals", "hashCode", "toString", "getMessage"};
    private static final String[] LIBRARY = {"NoSuchElementException", "IndexOutOfBoundsException",
        "IllegalArgumentException", "IllegalStateException", "ArithmeticException", "UnsupportedOperationException",
        "String", "StringBuilder", "Integer", "Math", "System"};

    private LanguageTests() {
    }

    static void run(String source) {
        Expect.promise(0);
        String code = source.replaceAll("(?s)/\\*.*?\\*/", " ").replaceAll("//[^\n]*", " ")
                .replaceAll("\"[^\"\n]*\"", "\"\"").replaceAll("'(\\\\.|[^'])'", "' '");
        for (String word : BANNED_WORDS) {
            Expect.holds(!Pattern.compile("\\b" + word + "\\b").matcher(code).find(), word + " is used");
        }
        Expect.holds(!code.contains("->") && !code.contains("::"), "a lambda or a method reference is used");
        Expect.holds(!code.contains("\"\" +") && !code.contains("+ \"\""), "a text is joined by +");
        Expect.holds(source.chars().allMatch(sign -> sign == '\n' || sign >= 32 && sign < 127), "a sign is not plain");
        imports(code);
        classes(code);
        Expect.is(Set.of("System.arraycopy"), uses(code, "System\\.\\w+"));
        Expect.is(Set.of("Math.max", "Math.min"), uses(code, "Math\\.\\w+"));
        lengths(code);
    }

    private static void imports(String code) {
        Expect.is(Set.of("import java.util.NoSuchElementException"), uses(code, "import [\\w. ]+"));
    }

    /** Every name of a class is one of the library's that the rules list, or one of a class in the file. */
    private static void classes(String code) {
        Set<String> known = new TreeSet<>(Set.of(LIBRARY));
        for (String declared : uses(code, "class \\w+")) {
            known.add(declared.substring("class ".length()));
        }
        Expect.holds(known.size() - LIBRARY.length <= 12, "there are too many classes");
        for (String name : uses(code, "\\b[A-Z]\\w*[a-z]\\w*")) {
            Expect.holds(known.contains(name), name + " is not in the rules");
        }
    }

    private static Set<String> uses(String code, String pattern) {
        Set<String> found = new TreeSet<>();
        Matcher matcher = Pattern.compile(pattern).matcher(code);
        while (matcher.find()) {
            found.add(matcher.group());
        }
        return found;
    }

    /** A method begins with a line that ends in ") {" or "Exception {", and ends with a brace at its own indent. */
    private static void lengths(String code) {
        String[] lines = code.split("\n");
        int methods = 0;
        for (int i = 0; i < lines.length; i++) {
            String indent = lines[i].replaceAll("\\S.*", "");
            if (indent.length() <= 8 && lines[i].matches(" +(?!static final class)\\w.*(\\)|Exception) \\{")) {
                int end = i;
                while (end < lines.length && !lines[end].equals(indent + "}")) {
                    end++;
                }
                methods++;
                Expect.holds(end - i <= 60, "the method at line " + (i + 1) + " is long");
            }
        }
        Expect.holds(methods > 100, "the methods are not found");
    }
}
