import java.io.IOException;
import java.lang.reflect.Field;
import java.lang.reflect.Method;
import java.lang.reflect.Modifier;
import java.nio.file.Files;
import java.nio.file.Path;
import java.util.Set;
import java.util.TreeSet;
import java.util.regex.Matcher;
import java.util.regex.Pattern;

/** Those rules of ../shared/LANGUAGE.md that can be seen from the words of the class or from its members. */
public final class LanguageTest {
    private static final String SOURCE = "src/main/java/WeightedNodes.java";
    private static final Set<String> THROWN = Set.of("IllegalStateException", "IllegalArgumentException",
        "IndexOutOfBoundsException", "ArithmeticException", "UnsupportedOperationException", "NoSuchElementException", "RuntimeException");
    private static final Set<String> LIBRARY = Set.of("Math", "Long", "Integer", "Arrays", "System");
    private static final String[] FORBIDDEN = {"->", "::", "synchronized", "assert ", "finally", "package ", "static {", "getMessage",
        "Exact(", " throws Exception", "extends RuntimeException", "catch (", "equals(", "hashCode", "toString", "Object", "var ", "goto",
        "volatile", "transient", "native", "NaN", "@"};

    public static void main(String[] args) throws IOException {
        String source = Files.readString(Path.of(SOURCE));
        String code = withoutComments(source);
        words(source, code);
        throwsAndLibrary(code);
        loopsAndLengths(source);
        for (Class<?> one : WeightedNodes.class.getDeclaredClasses()) {
            members(one);
        }
        members(WeightedNodes.class);
        Script.due("at most some twelve classes", WeightedNodes.class.getDeclaredClasses().length <= 11, true);
        Script.end();
    }

    private static String withoutComments(String source) {
        return source.replaceAll("(?s)/\\*.*?\\*/", "").replaceAll("//[^\n]*", "");
    }

    private static void words(String source, String code) {
        Script.due("all signs are 1 to 127", source.chars().allMatch(sign -> sign >= 1 && sign <= 127), true);
        String bare = code.replaceAll("\"[^\"\n]*\"", "\"\"");
        for (String word : FORBIDDEN) {
            Script.due("has " + word, bare.contains(word), false);
        }
        Script.due("texts joined by +", Pattern.compile("\"\\s*\\+|\\+\\s*\"").matcher(bare).find(), false);
        Script.due("imports", found(code, "import ([\\w.*]+);"), Set.of("java.util.NoSuchElementException"));
    }

    private static void throwsAndLibrary(String code) {
        Script.due("what is thrown", THROWN.containsAll(found(code, "throw new (\\w+)")), true);
        Script.due("each throw has a written text", count(code, "\\bthrow\\b"), count(code, "\\bthrow new \\w+\\(\"[^\"\n]*\"\\);"));
        Set<String> library = found(code, "\\b([A-Z][a-z]\\w*)\\.");
        for (Class<?> own : WeightedNodes.class.getDeclaredClasses()) {
            library.remove(own.getSimpleName());
        }
        Script.due("what is used of the library", LIBRARY.containsAll(library), true);
        Set<String> functions = found(code, "\\b(?:Math|Long|Integer)\\.(\\w+)");
        Script.due("its functions", Set.of("abs", "min", "max", "compare").containsAll(functions), true);
    }

    private static void loopsAndLengths(String source) {
        Script.due("loops without a bound", Pattern.compile("while \\(true\\)|for \\([^;]*;\\s*;").matcher(source).find(), false);
        int length = 0;
        int longest = 0;
        for (String line : source.split("\n")) {
            length = line.isBlank() ? 0 : length + 1;
            longest = Math.max(longest, length);
        }
        // An empty line stands between two methods, so no method is longer than this.
        Script.due("methods of some sixty lines", longest <= 60, true);
    }

    private static void members(Class<?> one) {
        Set<String> face = new TreeSet<>();
        for (Method method : WeightedNodes.class.getDeclaredMethods()) {
            if (Modifier.isPublic(method.getModifiers())) {
                face.add(method.getName());
            }
        }
        int fields = 0;
        for (Field field : one.getDeclaredFields()) {
            boolean fixed = Modifier.isStatic(field.getModifiers());
            fields += fixed ? 0 : 1;
            Script.due(field + " is final or no static one", !fixed || Modifier.isFinal(field.getModifiers()), true);
        }
        Script.due(one + " has some twenty fields", fields <= 20, true);
        for (Method method : one.getDeclaredMethods()) {
            Script.due(method + " has at most seven parameters", method.getParameterCount() <= 7, true);
            boolean hidden = Modifier.isPrivate(method.getModifiers());
            Script.due(method + " bears a name of the face", hidden && face.contains(method.getName()), false);
        }
        boolean outer = one == WeightedNodes.class;
        Script.due(one + " is static inside", outer || Modifier.isStatic(one.getModifiers()) && !Modifier.isPublic(one.getModifiers()), true);
    }

    private static Set<String> found(String code, String pattern) {
        Set<String> all = new TreeSet<>();
        Matcher matcher = Pattern.compile(pattern).matcher(code);
        while (matcher.find()) {
            all.add(matcher.group(1));
        }
        return all;
    }

    private static long count(String code, String pattern) {
        return Pattern.compile(pattern).matcher(code).results().count();
    }
}
