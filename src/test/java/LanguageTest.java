import java.io.IOException;
import java.lang.reflect.Constructor;
import java.lang.reflect.Field;
import java.lang.reflect.Method;
import java.lang.reflect.Modifier;
import java.nio.file.Files;
import java.nio.file.Path;
import java.util.ArrayDeque;
import java.util.Deque;
import java.util.HashSet;
import java.util.Map;
import java.util.Set;
import java.util.TreeMap;
import java.util.TreeSet;
import java.util.regex.Matcher;
import java.util.regex.Pattern;

/** The face of the document, and those rules of LANGUAGE.md that can be seen in the text. */
final class LanguageTest {
    private static final Path SOURCE = Path.of("src/main/java/SunRows.java");
    private static final Path DOCUMENT = Path.of("../shared/DOC.md");

    public static void main(String[] args) throws IOException {
        faceIsAsTold(Files.readString(DOCUMENT));
        hiddenNamesAreNotPublicOnes();
        classesAreStaticAndSmall();
        String code = withoutComments(Files.readString(SOURCE));
        noForbiddenWords(code);
        methodsAreShort(code);
        callsAreFewDeep(bodiesOf(code));
        onlyNewObjectsMakeObjects(code);
        Due.end();
    }

    private static String signature(String type, String name, Class<?>[] parameters) {
        StringBuilder text = new StringBuilder(type).append(' ').append(name).append('(');
        for (int at = 0; at < parameters.length; at++) {
            text.append(at == 0 ? "" : ", ").append(parameters[at].getSimpleName());
        }
        return text.append(')').toString();
    }

    private static void faceIsAsTold(String document) {
        Set<String> told = new TreeSet<>();
        Matcher line = Pattern.compile("(?m)^    public (\\w+) (\\w+)\\((.*)\\);$").matcher(document);
        while (line.find()) {
            String types = line.group(3).replaceAll("(\\w+) \\w+", "$1");
            told.add(line.group(1) + " " + line.group(2) + "(" + types + ")");
        }
        Set<String> made = new TreeSet<>();
        for (Method method : SunRows.class.getDeclaredMethods()) {
            if (!Modifier.isPrivate(method.getModifiers())) {
                made.add(signature(method.getReturnType().getSimpleName(), method.getName(),
                        method.getParameterTypes()));
                Due.isTrue(method + " is public, not static",
                        (method.getModifiers() & (Modifier.PUBLIC | Modifier.STATIC)) == Modifier.PUBLIC);
            }
        }
        Due.is("methods told", told.size(), 32);
        Due.isTrue("the face " + made + " is as told " + told, made.equals(told));
        Due.isTrue("the class is public and final",
                (SunRows.class.getModifiers() & (Modifier.PUBLIC | Modifier.FINAL))
                        == (Modifier.PUBLIC | Modifier.FINAL));
        Constructor<?>[] constructors = SunRows.class.getDeclaredConstructors();
        Due.isTrue("one public constructor", constructors.length == 1
                && Modifier.isPublic(constructors[0].getModifiers())
                && constructors[0].getParameterCount() == 0);
    }

    private static void hiddenNamesAreNotPublicOnes() {
        Set<String> face = new HashSet<>();
        for (Method method : SunRows.class.getMethods()) {
            face.add(method.getName());
        }
        for (Method method : SunRows.class.getDeclaredMethods()) {
            Due.isTrue(method + " bears no public name",
                    Modifier.isPublic(method.getModifiers()) || !face.contains(method.getName()));
            Due.isTrue(method + " takes at most seven", method.getParameterCount() <= 7);
        }
        for (Class<?> inside : SunRows.class.getDeclaredClasses()) {
            for (Method method : inside.getDeclaredMethods()) {
                Due.isTrue(method + " bears no public name", !face.contains(method.getName()));
                Due.isTrue(method + " takes at most seven", method.getParameterCount() <= 7);
            }
        }
    }

    private static void classesAreStaticAndSmall() {
        Class<?>[] inside = SunRows.class.getDeclaredClasses();
        Due.isTrue("at most some twelve classes", inside.length <= 11);
        fieldsAreFew(SunRows.class);
        for (Class<?> one : inside) {
            Due.isTrue(one + " is static", Modifier.isStatic(one.getModifiers()));
            Due.isTrue(one + " isn't public", !Modifier.isPublic(one.getModifiers()));
            fieldsAreFew(one);
        }
    }

    private static void fieldsAreFew(Class<?> one) {
        int own = 0;
        for (Field field : one.getDeclaredFields()) {
            if (Modifier.isStatic(field.getModifiers())) {
                Due.isTrue(field + " is final", Modifier.isFinal(field.getModifiers()));
            } else {
                own++;
            }
            Due.isTrue(field + " is hidden",
                    one != SunRows.class || Modifier.isPrivate(field.getModifiers()));
        }
        Due.isTrue(one + " has some twenty fields at most", own <= 20);
    }

    private static String withoutComments(String text) {
        return text.replaceAll("(?s)/\\*.*?\\*/", "").replaceAll("//[^\n]*", "");
    }

    private static void noForbiddenWords(String code) {
        String[] forbidden = {
            "\\bthrow\\b", "\\bthrows\\b", "\\btry\\b", "\\bcatch\\b", "\\bfinally\\b",
            "\\bsynchronized\\b", "\\bassert\\b", "\\bimport\\b", "\\bpackage\\b", "->", "::",
            "Exact\\b", "\\bprotected\\b", "\\bSystem\\.(?!arraycopy)", "\\bstatic\\s*\\{",
            "\\bObject\\b", "\\bThread\\b", "\\bhashCode\\b", "\\btoString\\b", "\\bequals\\b",
            "\\bwhile\\s*\\(true\\)", "for\\s*\\(;;", "[^\\x00-\\x7f]"
        };
        for (String word : forbidden) {
            Due.isTrue("the source has no " + word, !Pattern.compile(word).matcher(code).find());
        }
    }

    /** What stands in each method, by its name; methods of the same name are taken as one. */
    private static Map<String, String> bodiesOf(String code) {
        Map<String, String> bodies = new TreeMap<>();
        String first = "(?m)^( {4}| {8})(?:\\w[\\w\\[\\]]* )+(\\w+)\\([^)]*\\) \\{$";
        Matcher head = Pattern.compile(first).matcher(code);
        while (head.find()) {
            int end = code.indexOf("\n" + head.group(1) + "}", head.end());
            bodies.merge(head.group(2), code.substring(head.end(), end), String::concat);
        }
        Due.isTrue("all methods are seen", bodies.size() > 60);
        return bodies;
    }

    private static void callsAreFewDeep(Map<String, String> bodies) {
        for (Method method : SunRows.class.getDeclaredMethods()) {
            int deep = depthOf(method.getName(), bodies, new ArrayDeque<>());
            Due.isTrue(method + " goes " + deep + " deep, at most eight", deep <= 8);
        }
    }

    /** A method counts as one, one of the library too. */
    private static int depthOf(String name, Map<String, String> bodies, Deque<String> open) {
        Due.isTrue(name + " doesn't call itself by way of " + open, !open.contains(name));
        if (open.contains(name) || !bodies.containsKey(name)) {
            return 1;
        }
        open.push(name);
        int deepest = 0;
        Matcher call = Pattern.compile("\\b(\\w+)\\(").matcher(bodies.get(name));
        while (call.find()) {
            deepest = Math.max(deepest, depthOf(call.group(1), bodies, open));
        }
        open.pop();
        return 1 + deepest;
    }

    /** All calls of a run live in one room: what a field needs is made with it, and used again. */
    private static void onlyNewObjectsMakeObjects(String code) {
        for (String line : code.split("\n")) {
            boolean isField = line.matches(" +(private )?final [\\w\\[\\]]+ \\w+ = new [^;]+;");
            boolean isOfConstructor = line.strip().equals("rows[at] = new Row();");
            Due.isTrue("no call makes an object:" + line,
                    !line.matches(".*\\bnew\\b.*") || isField || isOfConstructor);
        }
    }

    /** A method's lines: from one that opens a block behind ')' at a class's depth to its end. */
    private static void methodsAreShort(String code) {
        int depth = 0;
        int begun = -1;
        int methodDepth = 0;
        String[] lines = code.split("\n");
        for (int at = 0; at < lines.length; at++) {
            if (begun < 0 && lines[at].matches(" {4,8}\\w.*\\) \\{")) {
                begun = at;
                methodDepth = depth;
            }
            depth += lines[at].replaceAll("[^{]", "").length() - lines[at].replaceAll("[^}]", "").length();
            if (begun >= 0 && depth == methodDepth) {
                Due.isTrue("line " + begun + " begins a short method", at - begun < 60);
                begun = -1;
            }
        }
        Due.is("all blocks are closed", depth, 0);
    }
}
