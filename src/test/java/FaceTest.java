import java.io.IOException;
import java.lang.reflect.Constructor;
import java.lang.reflect.Field;
import java.lang.reflect.Method;
import java.lang.reflect.Modifier;
import java.nio.file.Files;
import java.nio.file.Path;
import java.util.List;
import java.util.Set;
import java.util.TreeSet;
import java.util.regex.Matcher;
import java.util.regex.Pattern;

/** The public face as the document gives it, and what of shared/LANGUAGE.md can be seen from outside. */
public final class FaceTest {
    /** A method in the document's face: what it answers, its name, its parameters, what it throws. */
    private static final Pattern METHOD =
            Pattern.compile("public (int|long) (\\w+)\\(([^)]*)\\)( throws [\\w, ]+)?;");

    private static final int LONGEST_METHOD = 60;
    private static final int MOST_CLASSES = 12;
    private static final int MOST_FIELDS = 20;

    public static void main(String[] args) throws IOException {
        Path root = Path.of(System.getProperty("rescue.root", "."));
        face(Files.readString(root.resolve("../shared/DOC.md")));
        nothingElseIsSeen();
        classesInside();
        text(Files.readString(root.resolve("src/main/java/RescueBench.java")));
        Due.end();
    }

    private static void face(String document) {
        Set<String> face = faceOf(document.substring(document.indexOf("```java"), document.indexOf("## Terms")));
        Set<String> promised = faceOf(document.substring(document.indexOf("## Promise 1:")).replaceAll(
                "(?m)^`([^`]*)`:", "public $1;"));
        Due.same("methods of the face", face.size(), 19);
        Due.holds("the promises are of " + promised, promised.equals(face));
        Class<?> bench = RescueBench.class;
        Due.holds("public", Modifier.isPublic(bench.getModifiers()));
        Due.holds("final", Modifier.isFinal(bench.getModifiers()));
        Set<String> seen = new TreeSet<>();
        for (Method method : bench.getDeclaredMethods()) {
            if (Modifier.isPublic(method.getModifiers())) {
                Due.holds(method + " is no static one", !Modifier.isStatic(method.getModifiers()));
                seen.add(told(method));
            }
        }
        Due.holds("the face is " + seen, seen.equals(face));
    }

    private static Set<String> faceOf(String words) {
        Set<String> all = new TreeSet<>();
        Matcher methods = METHOD.matcher(words);
        while (methods.find()) {
            String types = methods.group(3).replaceAll("(int|long) \\w+", "$1");
            String thrown = methods.group(4) == null ? "" : methods.group(4);
            all.add(methods.group(1) + " " + methods.group(2) + "(" + types + ")" + thrown);
        }
        return all;
    }

    private static String told(Method method) {
        StringBuilder text = new StringBuilder();
        text.append(method.getReturnType()).append(' ').append(method.getName()).append('(');
        text.append(joined(method.getParameterTypes())).append(')');
        if (method.getExceptionTypes().length > 0) {
            text.append(" throws ").append(joined(method.getExceptionTypes()));
        }
        return text.toString();
    }

    private static String joined(Class<?>[] types) {
        StringBuilder text = new StringBuilder();
        for (Class<?> type : types) {
            text.append(text.length() == 0 ? "" : ", ").append(type.getSimpleName());
        }
        return text.toString();
    }

    private static void nothingElseIsSeen() {
        Constructor<?>[] constructors = RescueBench.class.getDeclaredConstructors();
        Due.same("constructors", constructors.length, 1);
        Due.same("parameters of it", constructors[0].getParameterCount(), 0);
        Due.holds("a public one", Modifier.isPublic(constructors[0].getModifiers()));
        Set<String> names = new TreeSet<>();
        for (Method method : RescueBench.class.getMethods()) {
            names.add(method.getName());
        }
        for (Method method : RescueBench.class.getDeclaredMethods()) {
            boolean isPrivate = Modifier.isPrivate(method.getModifiers());
            Due.holds(method + " is public or private", isPrivate || Modifier.isPublic(method.getModifiers()));
            Due.holds(method + " has a name of its own", !isPrivate || !names.contains(method.getName()));
        }
        for (Field field : RescueBench.class.getDeclaredFields()) {
            boolean isNone = field.getName().equals("NONE") && Modifier.isPublic(field.getModifiers());
            Due.holds(field + " is private or NONE", isNone || Modifier.isPrivate(field.getModifiers()));
        }
    }

    private static void classesInside() {
        Class<?>[] inside = RescueBench.class.getDeclaredClasses();
        Due.holds("few classes", inside.length < MOST_CLASSES);
        fieldsOf(RescueBench.class);
        for (Class<?> one : inside) {
            int modifiers = one.getModifiers();
            Due.holds(one + " is private and static", Modifier.isPrivate(modifiers) && Modifier.isStatic(modifiers));
            fieldsOf(one);
            for (Method method : one.getDeclaredMethods()) {
                Due.holds(method + " has few parameters", method.getParameterCount() <= 7);
            }
        }
    }

    private static void fieldsOf(Class<?> one) {
        int own = 0;
        for (Field field : one.getDeclaredFields()) {
            if (Modifier.isStatic(field.getModifiers())) {
                Due.holds(field + " is final", Modifier.isFinal(field.getModifiers()));
            } else {
                own++;
            }
        }
        Due.holds(one + " has few fields", own <= MOST_FIELDS);
    }

    private static void text(String source) {
        String code = source.replaceAll("(?s)/\\*.*?\\*/", "").replaceAll("//[^\n]*", "");
        for (String word : List.of("try", "catch", "finally", "synchronized", "assert", "package", "double", "float")) {
            Due.holds("no " + word, !Pattern.compile("\\b" + word + "\\b").matcher(code).find());
        }
        for (String sign : List.of("->", "::", "System.out", "Math.addExact", "hashCode", "toString", "Random")) {
            Due.holds("no " + sign, !code.contains(sign));
        }
        Matcher imports = Pattern.compile("import ([^;]*);").matcher(code);
        while (imports.find()) {
            Due.holds("import of " + imports.group(1), imports.group(1).equals("java.util.Arrays"));
        }
        methodsAreShort(source);
    }

    /** A method begins with a line that opens a brace at the depth of members, and ends where that is closed. */
    private static void methodsAreShort(String source) {
        String[] lines = source.split("\n");
        for (int i = 0; i < lines.length; i++) {
            Matcher begin = Pattern.compile("^( {4}| {8})[A-Za-z].*\\).*\\{$").matcher(lines[i]);
            if (begin.matches()) {
                int end = i;
                while (!lines[end].equals(begin.group(1) + "}")) {
                    end++;
                }
                Due.holds("line " + (i + 1) + " begins a short method", end - i < LONGEST_METHOD);
            }
        }
    }
}
