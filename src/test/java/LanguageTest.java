import java.lang.reflect.Constructor;
import java.lang.reflect.Field;
import java.lang.reflect.Method;
import java.lang.reflect.Modifier;
import java.nio.file.Files;
import java.nio.file.Path;
import java.util.ArrayList;
import java.util.HashSet;
import java.util.List;
import java.util.Set;
import java.util.TreeSet;
import java.util.regex.Matcher;
import java.util.regex.Pattern;

/** The face of the class, and those of LANGUAGE.md's rules that can be seen from the file's text. */
public final class LanguageTest {
    private static final String[] FACE = {"feed(int,int,int,int,int)int", "teach(int)int", "fault()int", "anew()int",
        "word(int)int", "part(int)int", "context(int,int)int", "lesson(int)int", "learn(int,int)int", "next(int,int)int",
        "latest(int)int", "count(int)int", "ofPart(int,int)int", "ofContext(int,boolean,int)int", "kind(int,int)int",
        "takes(int,int,int)boolean", "rule(int,int)int", "asked(int,int)int", "many(int,int)int",
        "told(int,boolean,int,int)int", "say()int", "said(int)int", "within(int,int)boolean", "trees(int)int",
        "tree(int)int", "treed(int,int)int"};
    private static final String[] FORBIDDEN = {"->", "::", "\\bfinally\\b", "\\btry\\b", "\\bcatch\\b", "\\bassert\\b",
        "\\bsynchronized\\b", "\\bhashCode\\b", "\\bSystem\\.(?!arraycopy)", "Math\\.\\w*Exact", "\\bstatic \\{",
        "\" ?\\+", "\\+ ?\"", "\\bwhile\\b", "\\bdo\\b", "\\bdouble\\b", "\\bpublic static(?! final)"};

    private LanguageTest() {
    }

    private static String told(Method method) {
        StringBuilder text = new StringBuilder(method.getName()).append('(');
        for (int i = 0; i < method.getParameterCount(); i++) {
            text.append(i == 0 ? "" : ",").append(method.getParameterTypes()[i].getSimpleName());
        }
        return text.append(')').append(method.getReturnType().getSimpleName()).toString();
    }

    private static void face() {
        Class<?> c = PhraseLearner.class;
        Check.due("public and final", true, () -> Modifier.isPublic(c.getModifiers()) && Modifier.isFinal(c.getModifiers()));
        Set<String> open = new TreeSet<>();
        for (Method method : c.getDeclaredMethods()) {
            if (!Modifier.isPrivate(method.getModifiers())) {
                open.add(told(method));
            }
        }
        Check.due("methods", new TreeSet<>(List.of(FACE)), () -> open);
        Set<String> fields = new TreeSet<>();
        for (Field field : c.getDeclaredFields()) {
            if (!Modifier.isPrivate(field.getModifiers())) {
                fields.add(field.getName());
            }
        }
        Check.due("constants", new TreeSet<>(List.of("NONE")), () -> fields);
        Constructor<?>[] constructors = c.getDeclaredConstructors();
        Check.due("one constructor", 1, () -> constructors.length);
        Check.due("without parameters", 0, () -> constructors[0].getParameterCount());
    }

    /** Every member is there as the document writes it, with its parameters' names and what it throws. */
    private static void asWritten() throws java.io.IOException {
        List<String> source = Files.readAllLines(Path.of("src/main/java/PhraseLearner.java"));
        int members = 0;
        for (String line : Files.readAllLines(Path.of("../shared/DOC.md"))) {
            if (line.matches(" {4}public .*;")) {
                String due = line.contains("(") ? line.replaceAll(";$", " {") : line;
                Check.due("as written: " + line, true, () -> source.contains(due));
                members++;
            }
        }
        int found = members;
        Check.due("members of the document", FACE.length + 2, () -> found);
    }

    /** No class inside may have a method with a name of the face; a class has some twenty fields. */
    private static void classesInside() {
        Set<String> names = new HashSet<>();
        for (String method : FACE) {
            names.add(method.substring(0, method.indexOf('(')));
        }
        List<Class<?>> all = new ArrayList<>(List.of(PhraseLearner.class.getDeclaredClasses()));
        Check.due("at most twelve classes", true, () -> all.size() < 12);
        for (Class<?> inside : all) {
            Check.due(inside + " is static", true, () -> Modifier.isStatic(inside.getModifiers()));
            int fields = 0;
            for (Field field : inside.getDeclaredFields()) {
                fields += Modifier.isStatic(field.getModifiers()) ? 0 : 1;
            }
            int count = fields;
            Check.due(inside + " has some twenty fields", true, () -> count <= 20);
            for (Method method : inside.getDeclaredMethods()) {
                Check.due(inside + " " + method.getName(), false, () -> names.contains(method.getName()));
                Check.due(inside + " " + method.getName() + " takes seven", true, () -> method.getParameterCount() <= 7);
            }
        }
    }

    private static void text() throws java.io.IOException {
        String source = Files.readString(Path.of("src/main/java/PhraseLearner.java"));
        Check.due("only signs 1 to 127", true, () -> source.chars().allMatch(c -> c > 0 && c < 128));
        String code = source.replaceAll("(?s)/\\*.*?\\*/", "").replaceAll("//[^\n]*", "");
        for (String pattern : FORBIDDEN) {
            Matcher found = Pattern.compile(pattern).matcher(code);
            Check.due("forbidden: " + pattern, "", () -> found.find() ? found.group() : "");
        }
        loops(code);
        int begun = 0;
        String[] lines = source.split("\n");
        for (int i = 0; i < lines.length; i++) {
            if (lines[i].matches(" {4,8}[a-z][^=;]*\\) (throws [A-Za-z, ]*)?\\{")) {
                begun = i;
            }
            if (lines[i].equals("    }") || lines[i].equals("        }")) {
                int length = i - begun + 1;
                Check.due("a short method up to line " + (i + 1), true, () -> length <= 60);
                begun = i;
            }
        }
    }

    /** Each loop is a counter that goes one way, against a bound. */
    private static void loops(String code) {
        Matcher loop = Pattern.compile("\\bfor \\(.*").matcher(code);
        int count = 0;
        while (loop.find()) {
            String line = loop.group();
            Check.due(line, true, () -> line.matches(
                "for \\(int (\\w+) = [^;]+; (\\1( \\+ \\w+)? <=? [^;]+; \\1\\+\\+|\\1 >= 0; \\1(--| -= 8))\\) \\{"));
            count++;
        }
        int loops = count;
        Check.due("there are loops", true, () -> loops > 60);
    }

    public static void main(String[] args) throws java.io.IOException {
        face();
        asWritten();
        classesInside();
        text();
        Check.end("language");
    }
}
