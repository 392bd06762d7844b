import java.lang.reflect.Constructor;
import java.lang.reflect.Field;
import java.lang.reflect.Method;
import java.lang.reflect.Modifier;
import java.nio.file.Files;
import java.nio.file.Path;
import java.util.ArrayList;
import java.util.List;
import java.util.Set;
import java.util.TreeSet;
import java.util.regex.Matcher;
import java.util.regex.Pattern;

/** The public face as DOC.md tells it, and some rules of LANGUAGE.md that a text shows. */
final class FaceTests {
    private FaceTests() {
    }

    static void run(Path document, Path program) throws Exception {
        Check.part("the public face");
        Check.due("methods", methodsOf(DateHem.class), methodsToldBy(Files.readString(document)));
        Check.due("constructors", DateHem.class.getDeclaredConstructors().length, 1);
        Constructor<?> made = DateHem.class.getDeclaredConstructor();
        Check.due("constructor is public", Modifier.isPublic(made.getModifiers()), true);
        Check.due("class", Modifier.toString(DateHem.class.getModifiers()), "public final");
        for (Field field : DateHem.class.getDeclaredFields()) {
            boolean isPrivate = Modifier.isPrivate(field.getModifiers());
            Check.due("field " + field.getName(), isPrivate, !field.getName().equals("NONE"));
        }
        Check.due("NONE", Modifier.toString(DateHem.class.getField("NONE").getModifiers()),
                "public static final");
        insides();
        Check.part("the public face, what it says ahead of the calls");
        Check.due("how many", headingsToldBy(Files.readString(document)).size(), 9);
        Check.due("headings", headingsOf(Files.readString(program)),
                headingsToldBy(Files.readString(document)));
        Check.part("the language");
        words(Files.readString(program));
    }

    private static Set<String> methodsOf(Class<?> type) {
        Set<String> told = new TreeSet<>();
        for (Method method : type.getDeclaredMethods()) {
            if (!Modifier.isPrivate(method.getModifiers())) {
                told.add(method.toString().replace("DateHem.", "").replace("java.lang.", "")
                        .replaceAll("\\s+", " "));
            }
        }
        return told;
    }

    private static Set<String> methodsToldBy(String document) {
        Set<String> told = new TreeSet<>();
        Matcher line = Pattern.compile("(?m)^ {4}(public \\w+ \\w+)\\((.*?)\\)(.*);$").matcher(document);
        while (line.find()) {
            String types = line.group(2).replaceAll(" \\w+(,|$) ?", "$1");
            told.add(line.group(1) + "(" + types + ")" + line.group(3).replace(", ", ","));
        }
        return told;
    }

    /** The headings that the document tells, each with the calls behind it. */
    private static List<String> headingsToldBy(String document) {
        List<String> told = new ArrayList<>();
        Matcher line = Pattern.compile("(?m)^Ahead of the calls (.*) the interface says: (---- .*)\\.$")
                .matcher(document);
        while (line.find()) {
            told.add(line.group(2) + ": " + line.group(1).replace("`", ""));
        }
        return told;
    }

    private static List<String> headingsOf(String program) {
        List<String> told = new ArrayList<>();
        String heading = "";
        List<String> calls = new ArrayList<>();
        Matcher line = Pattern.compile("(?m)^    (?:// (---- .*)|public \\w+ (\\w+)\\(.*)$").matcher(program);
        while (line.find()) {
            if (line.group(1) == null) {
                calls.add(line.group(2));
                continue;
            }
            if (!calls.isEmpty()) {
                told.add(heading + ": " + String.join(", ", calls));
            }
            heading = line.group(1);
            calls.clear();
        }
        return told;
    }

    private static void insides() {
        Set<String> faceNames = new TreeSet<>();
        for (Method method : DateHem.class.getMethods()) {
            if (method.getDeclaringClass() == DateHem.class) {
                faceNames.add(method.getName());
            }
        }
        Check.due("names of the face", faceNames.size(), 57);
        hasNoNameOf(faceNames, DateHem.class);
        for (Class<?> inside : DateHem.class.getDeclaredClasses()) {
            int modifiers = inside.getModifiers();
            Check.due(inside + " is static", Modifier.isStatic(modifiers), true);
            Check.due(inside + " is open", Modifier.isPublic(modifiers)
                    || Modifier.isProtected(modifiers), false);
            Check.due("fields of " + inside, countFields(inside) <= 20, true);
            hasNoNameOf(faceNames, inside);
        }
        Check.due("count of classes", DateHem.class.getDeclaredClasses().length < 12, true);
    }

    private static void hasNoNameOf(Set<String> faceNames, Class<?> type) {
        for (Method method : type.getDeclaredMethods()) {
            boolean isFace = Modifier.isPublic(method.getModifiers());
            Check.due(type + "." + method.getName() + " bears a name of the face",
                    !isFace && faceNames.contains(method.getName()), false);
            Check.due("parameters of " + method, method.getParameterCount() <= 7, true);
        }
    }

    private static int countFields(Class<?> type) {
        int count = 0;
        for (Field field : type.getDeclaredFields()) {
            count += Modifier.isStatic(field.getModifiers()) ? 0 : 1;
        }
        return count;
    }

    private static void words(String program) {
        String code = program.replaceAll("(?s)/\\*.*?\\*/", "").replaceAll("//.*", "");
        String[] banned = {"import ", "package ", "synchronized", "assert ", "finally",
            "try ", "catch ", "Exact(", "String.format", "System.out", "hashCode", "toString",
            "currentTimeMillis", "nanoTime", "random", "Random", "Object", "Thread", "static {"};
        for (String word : banned) {
            boolean stands = Pattern.compile("\\b" + Pattern.quote(word)).matcher(code).find();
            Check.due("stands in it: " + word, stands, false);
        }
        Check.due("lambdas and method references", code.contains("->") || code.contains("::"), false);
        Matcher method = Pattern.compile("(?ms)^( +)(?:[\\w\\[\\]]+ )+\\w+\\([^;]*?\\{\n(.*?)^\\1\\}")
                .matcher(code);
        int methods = 0;
        while (method.find()) {
            methods++;
            Check.due("lines of " + method.group().strip().split("\n")[0],
                    method.group(2).split("\n").length <= 60, true);
        }
        Check.due("enough methods were seen", methods > 100, true);
    }
}
