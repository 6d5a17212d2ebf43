import java.io.IOException;
import java.lang.reflect.Field;
import java.lang.reflect.Method;
import java.lang.reflect.Modifier;
import java.nio.file.Files;
import java.nio.file.Path;
import java.util.ArrayList;
import java.util.List;
import java.util.Set;
import java.util.TreeSet;
import java.util.regex.Matcher;
import java.util.regex.Pattern;

/** The face as the document has it, read from the document: what is declared there, and where its headings stand. */
public final class FaceTest {
    private static final Path DOCUMENT = Path.of("../shared/DOC.md");
    private static final Path SOURCE = Path.of("src/main/java/SlidingRanks.java");
    private static final Pattern FACE = Pattern.compile("(?s)## The public face\\s+```java\\n(.*?)```");
    private static final Pattern CONSTANTS = Pattern.compile("public static final int ([^;]+);");
    private static final Pattern METHOD = Pattern.compile("public (int \\w+\\([^)]*\\));");
    private static final Pattern PROMISE = Pattern.compile("(?m)^## Promise (\\d+): (.+)\\n\\n`([^`]+)`: ");
    private static final Pattern GROUP = Pattern.compile("(?m)^Ahead of the calls (.+) the interface says: (---- .+)\\.$");

    private FaceTest() {
    }

    public static void main(String[] args) throws IOException, IllegalAccessException {
        String document = Files.readString(DOCUMENT);
        Matcher face = FACE.matcher(document);
        Due.holds("the document has a face", face.find());
        String declared = face.group(1);
        checkFirstLines(declared);
        checkConstants(declared);
        List<String> methods = all(METHOD, declared, 1);
        checkMethods(methods);
        checkPromises(document, methods);
        checkGroups(document, methods);
        Due.close();
    }

    private static List<String> all(Pattern pattern, String text, int group) {
        List<String> found = new ArrayList<>();
        Matcher matcher = pattern.matcher(text);
        while (matcher.find()) {
            found.add(matcher.group(group));
        }
        return found;
    }

    private static String nameOf(String method) {
        return method.replaceAll("^int (\\w+).*", "$1");
    }

    private static void checkFirstLines(String declared) {
        Due.holds("a public final class", declared.startsWith("public final class SlidingRanks {"));
        Due.is("is one", SlidingRanks.class.getModifiers(), Modifier.PUBLIC | Modifier.FINAL);
        Due.holds("a constructor of nothing", declared.contains("public SlidingRanks();"));
        Due.is("is the only one", SlidingRanks.class.getDeclaredConstructors().length, 1);
        Due.is("is public", SlidingRanks.class.getDeclaredConstructors()[0].getModifiers(), Modifier.PUBLIC);
        Due.is("is of nothing", SlidingRanks.class.getDeclaredConstructors()[0].getParameterCount(), 0);
    }

    private static void checkConstants(String declared) throws IllegalAccessException {
        Set<String> due = new TreeSet<>();
        for (String line : all(CONSTANTS, declared, 1)) {
            due.addAll(List.of(line.split(", ")));
        }
        Set<String> seen = new TreeSet<>();
        for (Field field : SlidingRanks.class.getFields()) {
            seen.add(field.getName() + " = " + field.get(null));
            Due.is(field.getName() + " is a constant", field.getModifiers(), Modifier.PUBLIC | Modifier.STATIC | Modifier.FINAL);
            Due.holds(field.getName() + " is an int", field.getType() == int.class);
        }
        Due.is("constants that the document has", due.size(), 5);
        Due.holds("due are " + due + ", seen are " + seen, due.equals(seen));
    }

    private static void checkMethods(List<String> methods) {
        Set<String> due = new TreeSet<>();
        for (String method : methods) {
            due.add(method.replaceAll("int \\w+(?=[,)])", "int"));
        }
        Set<String> seen = new TreeSet<>();
        for (Method method : SlidingRanks.class.getDeclaredMethods()) {
            if (Modifier.isPublic(method.getModifiers())) {
                Due.is(method.getName() + " is public alone", method.getModifiers(), Modifier.PUBLIC);
                seen.add(signature(method));
            }
        }
        Due.is("methods that the document has", due.size(), 34);
        Due.holds("due are " + due + ", seen are " + seen, due.equals(seen));
    }

    private static String signature(Method method) {
        List<String> types = new ArrayList<>();
        for (Class<?> type : method.getParameterTypes()) {
            types.add(type.getName());
        }
        return method.getReturnType().getName() + " " + method.getName() + "(" + String.join(", ", types) + ")";
    }

    /** The face and the promises must tell the same, in one order: else this test reads the wrong lines. */
    private static void checkPromises(String document, List<String> methods) {
        List<String> numbers = all(PROMISE, document, 1);
        List<String> headings = all(PROMISE, document, 2);
        List<String> calls = all(PROMISE, document, 3);
        Due.is("promises", calls.size(), methods.size() + 1);
        Due.holds("the first is the constructor", calls.get(0).equals("SlidingRanks()"));
        for (int i = 1; i < calls.size(); i++) {
            Due.is("the number of " + calls.get(i), Integer.parseInt(numbers.get(i)), i + 1);
            Due.holds(calls.get(i) + " is on the face", calls.get(i).equals(methods.get(i - 1)));
            Due.holds(calls.get(i) + " is what its heading names", headings.get(i).equals(nameOf(calls.get(i))));
        }
    }

    /** The class has the document's headings, and behind each the calls that the document puts behind it. */
    private static void checkGroups(String document, List<String> methods) throws IOException {
        List<String> due = new ArrayList<>();
        Matcher group = GROUP.matcher(document);
        while (group.find()) {
            due.add(group.group(2));
            for (String name : group.group(1).split(", ")) {
                due.add(name.replace("`", ""));
            }
        }
        List<String> seen = new ArrayList<>();
        for (String line : Files.readAllLines(SOURCE)) {
            Matcher call = Pattern.compile("^    public int (\\w+)\\(.*").matcher(line);
            if (call.matches()) {
                seen.add(call.group(1));
            } else if (line.startsWith("    // ---- ") && seen.size() < due.size()) {
                seen.add(line.substring("    // ".length()));
            }
        }
        Due.is("calls behind the headings", due.size(), methods.size() + 4);
        Due.holds("due is " + due + ", seen is " + seen, due.equals(seen));
    }
}
