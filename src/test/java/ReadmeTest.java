import java.lang.reflect.InvocationTargetException;
import java.lang.reflect.Method;
import java.nio.file.Files;
import java.nio.file.Path;
import java.util.ArrayList;
import java.util.List;
import java.util.Set;
import java.util.TreeSet;
import java.util.regex.Matcher;
import java.util.regex.Pattern;
import java.util.stream.Stream;

/** What README.md shows of the class's use is so: its calls are made, in their order, and answer what it says. */
public final class ReadmeTest {
    private static final String MAKING = "PhraseLearner x = new PhraseLearner();";
    private static final Pattern CALL =
        Pattern.compile("x\\.(\\w+)\\(([^()]*)\\); +// (throws \\w+|-?\\d+|true|false)(: (.*))?");
    private static final Pattern LISTED = Pattern.compile("\\| `(\\w+\\(.*?\\))` \\| (.+) \\| (-|IAE|NSE|IAE, NSE) \\|");
    private static final int MOST_CALLS = 512;

    private final Set<String> shown = new TreeSet<>();
    private PhraseLearner x = null;
    private int calls = 0;

    private ReadmeTest() {
    }

    private static List<String> javaLines(List<String> readme) {
        List<String> found = new ArrayList<>();
        boolean inside = false;
        for (String line : readme) {
            if (line.startsWith("```")) {
                inside = line.equals("```java");
            } else if (inside && !line.isBlank()) {
                found.add(line);
            }
        }
        return found;
    }

    private static Method methodOf(String name) {
        for (Method method : PhraseLearner.class.getMethods()) {
            if (method.getName().equals(name) && method.getDeclaringClass() == PhraseLearner.class) {
                return method;
            }
        }
        return null;
    }

    private static Object[] valuesOf(Method method, String written) {
        String[] parts = written.isBlank() ? new String[0] : written.split(", ");
        Object[] values = new Object[parts.length];
        for (int i = 0; i < parts.length; i++) {
            boolean isNumber = i >= method.getParameterCount() || method.getParameterTypes()[i] == int.class;
            values[i] = isNumber ? (Object) Integer.decode(parts[i]) : (Object) Boolean.valueOf(parts[i]);
        }
        return values;
    }

    private String answerOf(Method method, Object[] values) {
        calls++;
        try {
            return String.valueOf(method.invoke(x, values));
        } catch (InvocationTargetException e) {
            return "throws " + e.getCause().getClass().getSimpleName();
        } catch (IllegalAccessException | IllegalArgumentException e) {
            return "no such call: " + e;
        }
    }

    private static String bytesOf(Object[] numbers) {
        StringBuilder text = new StringBuilder();
        for (Object number : numbers) {
            for (int shift = 24; shift >= 0; shift -= 8) {
                text.append((char) ((Integer) number >> shift & 255));
            }
        }
        return text.toString().stripTrailing();
    }

    private void makeCall(String line) {
        Matcher call = CALL.matcher(line);
        boolean isCall = call.matches();
        Method method = isCall ? methodOf(call.group(1)) : null;
        Check.due("a call with an answer: " + line, true, () -> method != null && x != null);
        if (method == null || x == null) {
            return;
        }
        Object[] values = valuesOf(method, call.group(2));
        Check.due(line, call.group(3), () -> answerOf(method, values));
        shown.add(call.group(1) + (call.group(3).startsWith("throws") ? " " + call.group(3) : ""));
        if (call.group(1).equals("feed")) {
            Check.due("bytes of " + line, call.group(5), () -> bytesOf(values));
        }
        if (call.group(1).equals("say")) {
            calls += call.group(5).length() + 1;
            Check.due("text of " + line, call.group(5), () -> Check.saidOf(x));
        }
    }

    private void makeCalls(List<String> lines) {
        for (String line : lines) {
            if (line.equals(MAKING)) {
                x = new PhraseLearner();
                calls = 0;
            } else {
                makeCall(line);
                Check.due("an object is for 512 calls: " + line, true, () -> calls <= MOST_CALLS);
            }
        }
        for (Method method : faceOf()) {
            Check.due(method.getName() + " is shown", true, () -> shown.contains(method.getName()));
            for (Class<?> thrown : method.getExceptionTypes()) {
                String name = method.getName() + " throws " + thrown.getSimpleName();
                Check.due(name + " is shown", true, () -> shown.contains(name));
            }
        }
    }

    private static List<Method> faceOf() {
        List<Method> face = new ArrayList<>();
        for (Method method : PhraseLearner.class.getMethods()) {
            if (method.getDeclaringClass() == PhraseLearner.class) {
                face.add(method);
            }
        }
        return face;
    }

    /** The document's own lines, as README.md's list has them. */
    private static Set<String> faceOfDocument() throws java.io.IOException {
        Set<String> face = new TreeSet<>();
        Pattern line = Pattern.compile(" {4}public (int|boolean) (\\w+\\(.*\\))( throws (.*))?;");
        for (String text : Files.readAllLines(Path.of("../shared/DOC.md"))) {
            Matcher found = line.matcher(text);
            if (found.matches()) {
                String thrown = found.group(4) == null ? "-" : found.group(4);
                face.add(found.group(2) + " " + thrown.replace("IllegalArgumentException", "IAE")
                    .replace("NoSuchElementException", "NSE"));
            }
        }
        return face;
    }

    private static void list(List<String> readme) throws java.io.IOException {
        Set<String> listed = new TreeSet<>();
        int lines = 0;
        for (String line : readme) {
            Matcher found = LISTED.matcher(line);
            if (found.matches()) {
                listed.add(found.group(1) + " " + found.group(3));
                lines++;
            }
        }
        int count = lines;
        Check.due("the list of calls", faceOfDocument(), () -> listed);
        Check.due("each once", listed.size(), () -> count);
        Check.due("all of them", 26, () -> count);
    }

    /** README.md tells the command, and what it runs. */
    private static void tests(List<String> readme) throws java.io.IOException {
        Check.due("the command", true, () -> readme.contains(".ci/run") && Files.isExecutable(Path.of(".ci/run")));
        Set<String> told = new TreeSet<>();
        Pattern name = Pattern.compile("`(\\w+Test)`");
        for (String line : readme) {
            Matcher found = name.matcher(line);
            while (line.startsWith("- `") && found.find()) {
                told.add(found.group(1) + ".java");
            }
        }
        Set<String> there = new TreeSet<>();
        try (Stream<Path> files = Files.list(Path.of("src/test/java"))) {
            files.map(file -> file.getFileName().toString()).filter(file -> file.endsWith("Test.java")).forEach(there::add);
        }
        Check.due("the list of tests", there, () -> told);
        String script = Files.readString(Path.of(".ci/run"));
        Check.due("runs them", true, () -> script.contains("src/test/java/*Test.java"));
        Check.due("runs the shared ones", true, () -> script.contains("\"$shared\"/tests/*.java"));
    }

    public static void main(String[] args) throws java.io.IOException {
        List<String> readme = Files.readAllLines(Path.of("README.md"));
        new ReadmeTest().makeCalls(javaLines(readme));
        list(readme);
        tests(readme);
        Check.end("readme");
    }
}
