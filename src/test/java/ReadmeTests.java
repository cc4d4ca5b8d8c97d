import java.io.File;
import java.io.IOException;
import java.lang.reflect.Method;
import java.net.URL;
import java.net.URLClassLoader;
import java.nio.file.Files;
import java.nio.file.Path;
import java.util.ArrayList;
import java.util.List;
import java.util.function.BiConsumer;
import java.util.function.Consumer;
import java.util.function.Supplier;
import java.util.regex.Matcher;
import java.util.regex.Pattern;
import javax.tools.ToolProvider;

/** The blocks that README.md shows compile, and their calls give the answers that it tells. */
final class ReadmeTests {
    private static final Pattern BLOCK = Pattern.compile("(?ms)^```java\n(.*?)^```$");
    private static final Pattern CALL = Pattern.compile("(.*);\\s*// (.*)");
    private static final Pattern ANSWER = Pattern.compile("(throws \\w+|'.'|\"[^\"]*\"|[\\w.-]+)(, (.*))?");
    private static final Pattern CONSTANT = Pattern.compile("SockEmbassy\\.([A-Z_]+)");
    private static final Pattern ROW = Pattern.compile("(?m)^\\|(.*)\\|(.*)\\|(.*)\\|(.*)\\|$");
    private static final Pattern QUOTED = Pattern.compile("`([^`]*)`");
    private static final String LETTERS = "nawpdrlmjkqbutey";
    // Sock 0 is away, pending, refused, a resident, and a paired resident.
    private static final String[] SETUPS = {"nr5 nr5", "nr5 nr5 a0>2", "nr5 nr5 q2=0 a0>2 d2",
        "nr5 nr5 a0>2 a1>2 d2 t23o", "nr5 nr5 a0>2 a1>2 d2 t23o j0&1"};

    private static int asked;
    private static String letters = "";

    private ReadmeTests() {
    }

    static void run(Path page) throws IOException, ReflectiveOperationException {
        Expect.promise(0);
        String readme = Files.readString(page);
        List<String> blocks = blocks(readme);
        everyCall(blocks);
        everyTest(readme, page.toAbsolutePath().resolveSibling("src/test/java"));
        runBlocks(program(blocks, readme));
        Expect.holds(asked >= 61, "README.md tells only " + asked + " answers");
        for (char letter : LETTERS.toCharArray()) {
            Expect.holds(letters.indexOf(letter) >= 0, "README.md does not show the command " + letter);
        }
    }

    private static List<String> blocks(String readme) {
        List<String> found = new ArrayList<>();
        Matcher matcher = BLOCK.matcher(readme);
        while (matcher.find()) {
            found.add(matcher.group(1));
        }
        return found;
    }

    /** The blocks show every call of the class. */
    private static void everyCall(List<String> blocks) {
        String all = String.join("", blocks);
        for (String line : FaceTests.calls()) {
            Expect.holds(all.contains("office." + line + "("), "README.md does not show " + line);
        }
    }

    /** The page names every file of the tests, and no test that is not there. */
    private static void everyTest(String readme, Path directory) throws IOException {
        List<String> names = new ArrayList<>();
        try (var files = Files.list(directory)) {
            files.forEach(file -> names.add(file.getFileName().toString().replace(".java", "")));
        }
        for (String name : names) {
            boolean isNamed = readme.contains("`" + name + "`") || readme.contains("`" + name + ".");
            Expect.holds(isNamed, "README.md does not name " + name);
        }
        Matcher named = Pattern.compile("`(\\w+(?:Tests|Runs))`").matcher(readme);
        while (named.find()) {
            Expect.holds(names.contains(named.group(1)), "there is no test " + named.group(1));
        }
    }

    /** A class with the blocks as they stand, and with their calls one by one, each with what is told of it. */
    private static String program(List<String> blocks, String readme) {
        StringBuilder members = new StringBuilder();
        StringBuilder calls = new StringBuilder();
        int number = 0;
        for (String block : blocks) {
            if (block.startsWith("static ")) {
                members.append(block);
            } else {
                number++;
                members.append("static void shown").append(number).append("() {\n").append(block).append("}\n");
                calls.append("{\n").append(asking(block)).append("}\n");
            }
        }
        return "import java.util.function.*;\npublic final class ReadmeBlocks {\n" + members
                + "public static void run(BiConsumer<String, Supplier<Object>> due,"
                + " BiConsumer<String, Consumer<SockEmbassy>> same) {\n" + calls + rows(readme) + "}\n}\n";
    }

    private static String asking(String block) {
        StringBuilder text = new StringBuilder();
        for (String line : block.split("\n")) {
            Matcher call = CALL.matcher(line);
            if (call.matches()) {
                text.append("due.accept(").append(quoted(line)).append(", () -> ").append(call.group(1)).append(");\n");
            } else {
                Expect.is("SockEmbassy office = new SockEmbassy();", line);
                text.append(line).append('\n');
            }
        }
        return text.toString();
    }

    /** Each command of the page's table with its call. */
    private static String rows(String readme) {
        StringBuilder text = new StringBuilder();
        Matcher row = ROW.matcher(readme);
        while (row.find()) {
            for (int column = 1; column <= 3; column += 2) {
                Matcher command = QUOTED.matcher(row.group(column));
                Matcher call = QUOTED.matcher(row.group(column + 1));
                while (command.find() && call.find()) {
                    text.append("same.accept(").append(quoted(command.group(1))).append(", office -> office.")
                            .append(call.group(1)).append(");\n");
                }
            }
        }
        return text.toString();
    }

    private static String quoted(String text) {
        return '"' + text.replace("\\", "\\\\").replace("\"", "\\\"") + '"';
    }

    private static void runBlocks(String program) throws IOException, ReflectiveOperationException {
        Path directory = Files.createTempDirectory("readme");
        Path source = directory.resolve("ReadmeBlocks.java");
        Files.writeString(source, program);
        int failures = ToolProvider.getSystemJavaCompiler().run(null, System.out, System.out, "-encoding", "UTF-8",
                "-cp", System.getProperty("java.class.path"), "-d", directory.toString(), source.toString());
        Expect.is(0, failures);
        if (failures == 0) {
            try (URLClassLoader loader = new URLClassLoader(new URL[] {directory.toUri().toURL()})) {
                BiConsumer<String, Supplier<Object>> due = ReadmeTests::compare;
                BiConsumer<String, Consumer<SockEmbassy>> same = ReadmeTests::sameAsCall;
                Method run = loader.loadClass("ReadmeBlocks").getMethod("run", BiConsumer.class, BiConsumer.class);
                run.invoke(null, due, same);
            }
        }
        for (File file : directory.toFile().listFiles()) {
            Files.delete(file.toPath());
        }
        Files.delete(directory);
    }

    /** The call gives the answer that is told behind it; a constant that the remark names has this value. */
    private static void compare(String line, Supplier<Object> call) {
        asked++;
        Matcher told = ANSWER.matcher(line.replaceFirst(".*;\\s*// ", ""));
        Expect.holds(told.matches(), "no answer is told: " + line);
        String got = shown(call);
        if (told.matches()) {
            Expect.holds(told.group(1).equals(got), "README.md says: " + line + ", the answer is " + got);
            Matcher constant = CONSTANT.matcher(told.group(3) == null ? "" : told.group(3));
            while (constant.find()) {
                Expect.is(told.group(1), valueOf(constant.group(1)));
            }
        }
    }

    private static String shown(Supplier<Object> call) {
        try {
            Object answer = call.get();
            String quote = answer instanceof Character ? "'" : answer instanceof String ? "\"" : "";
            return quote + answer + quote;
        } catch (RuntimeException e) {
            return "throws " + e.getClass().getSimpleName();
        }
    }

    private static String valueOf(String constant) {
        try {
            return String.valueOf(SockEmbassy.class.getField(constant).getInt(null));
        } catch (ReflectiveOperationException e) {
            return "no constant " + constant;
        }
    }

    /** A command does what its call does, in offices where it can be carried out and where it can not. */
    private static void sameAsCall(String command, Consumer<SockEmbassy> call) {
        letters += command.charAt(0);
        int carriedOut = 0;
        for (String setup : SETUPS) {
            SockEmbassy told = Make.office(setup);
            Object answer = Expect.answer(() -> {
                call.accept(told);
                return 1;
            });
            SockEmbassy office = Make.office(setup);
            Object got = Expect.answer(() -> Make.execute(office, command));
            Expect.holds(answer.equals(1) == got.equals(1), command + " answers " + got + ", its call " + answer);
            Expect.is(Picture.data(told), Picture.data(office));
            carriedOut += got.equals(1) ? 1 : 0;
        }
        Expect.holds(carriedOut > 0, command + " is never carried out");
    }
}
