import java.lang.reflect.Constructor;
import java.lang.reflect.Field;
import java.lang.reflect.Method;
import java.lang.reflect.Modifier;
import java.util.Set;
import java.util.TreeSet;
import java.util.regex.Matcher;
import java.util.regex.Pattern;

/** The class has the face that the document shows, and no other member that can be seen. */
final class FaceTests {
    private FaceTests() {
    }

    static void run(String document, String source) throws IllegalAccessException {
        Expect.promise(0);
        Set<String> due = new TreeSet<>();
        int start = document.indexOf("public final class SockEmbassy {");
        String face = document.substring(start, document.indexOf("```", start));
        for (String line : face.split("\n")) {
            String member = line.trim().replaceAll("( [a-z]+)(?=[,)])", "").replace(";", "");
            if (member.startsWith("public") && !member.endsWith("{")) {
                due.add(member);
            }
        }
        Expect.is(17 + 1 + 61, due.size());
        Expect.is(due, members());
        Expect.holds(Modifier.isFinal(SockEmbassy.class.getModifiers()), "the class is not final");
        for (Class<?> inside : SockEmbassy.class.getDeclaredClasses()) {
            Expect.holds(Modifier.isPrivate(inside.getModifiers()), inside + " is not private");
        }
        names();
        sizes(SockEmbassy.class);
        headings(source);
    }

    /** What stands ahead of each group of calls. */
    private static void headings(String source) {
        String[] parts = source.split("(?m)^ *// ---- ");
        for (String sentence : Document.sentences("Ahead of the calls ")) {
            Expect.term(sentence);
            String[] halves = sentence.split(" the interface says: ---- ");
            String heading = halves[1].replace(".", "");
            StringBuilder due = new StringBuilder();
            for (String name : halves[0].replaceAll("Ahead of the calls |[`,]", "").split(" ")) {
                due.append(name).append(' ');
            }
            Expect.is(due.toString(), calls(parts, heading));
        }
    }

    private static String calls(String[] parts, String heading) {
        StringBuilder found = new StringBuilder();
        for (String part : parts) {
            if (part.startsWith(heading + "\n") && found.length() == 0) {
                Matcher calls = Pattern.compile("(?m)^    public \\w+ (\\w+)\\(").matcher(part);
                while (calls.find()) {
                    found.append(calls.group(1)).append(' ');
                }
            }
        }
        return found.toString();
    }

    private static Set<String> members() throws IllegalAccessException {
        Set<String> found = new TreeSet<>();
        for (Field field : SockEmbassy.class.getDeclaredFields()) {
            if (!Modifier.isPrivate(field.getModifiers())) {
                found.add(Modifier.toString(field.getModifiers()) + " " + field.getType() + " " + field.getName()
                        + " = " + field.get(null));
            }
        }
        for (Constructor<?> constructor : SockEmbassy.class.getDeclaredConstructors()) {
            found.add(Modifier.toString(constructor.getModifiers()) + " SockEmbassy("
                    + types(constructor.getParameterTypes()) + ")" + thrown(constructor.getExceptionTypes()));
        }
        for (Method method : SockEmbassy.class.getDeclaredMethods()) {
            if (!Modifier.isPrivate(method.getModifiers())) {
                found.add(Modifier.toString(method.getModifiers()) + " " + method.getReturnType() + " "
                        + method.getName() + "(" + types(method.getParameterTypes()) + ")"
                        + thrown(method.getExceptionTypes()));
            }
        }
        return found;
    }

    private static String types(Class<?>[] types) {
        StringBuilder text = new StringBuilder();
        for (Class<?> type : types) {
            text.append(text.length() > 0 ? ", " : "").append(type.getSimpleName());
        }
        return text.toString();
    }

    private static String thrown(Class<?>[] types) {
        return types.length > 0 ? " throws " + types(types) : "";
    }

    /** What LANGUAGE.md says of static fields, and of the number of fields and parameters. */
    private static void sizes(Class<?> type) {
        int fields = 0;
        for (Field field : type.getDeclaredFields()) {
            boolean isStatic = Modifier.isStatic(field.getModifiers());
            fields += isStatic ? 0 : 1;
            Expect.holds(!isStatic || Modifier.isFinal(field.getModifiers()), field + " is not final");
        }
        Expect.holds(fields <= 20, type + " has too many fields");
        for (Method method : type.getDeclaredMethods()) {
            Expect.holds(method.getParameterCount() <= 7, method + " has too many parameters");
        }
        for (Class<?> inside : type.getDeclaredClasses()) {
            sizes(inside);
        }
    }

    /** The names of the class's calls. */
    static Set<String> calls() {
        Set<String> found = new TreeSet<>();
        for (Method method : SockEmbassy.class.getMethods()) {
            if (method.getDeclaringClass() == SockEmbassy.class) {
                found.add(method.getName());
            }
        }
        return found;
    }

    /** No private method, nor one of a class inside, bears the name of a public one. */
    private static void names() {
        Set<String> shown = calls();
        checkNames(SockEmbassy.class, shown, true);
        for (Class<?> inside : SockEmbassy.class.getDeclaredClasses()) {
            checkNames(inside, shown, false);
        }
    }

    private static void checkNames(Class<?> type, Set<String> shown, boolean onlyPrivate) {
        for (Method method : type.getDeclaredMethods()) {
            if (!onlyPrivate || Modifier.isPrivate(method.getModifiers())) {
                Expect.holds(!shown.contains(method.getName()), type + " hides " + method.getName());
            }
        }
    }
}
