import java.lang.management.ManagementFactory;
import java.lang.reflect.Constructor;
import java.lang.reflect.Field;
import java.lang.reflect.Method;
import java.lang.reflect.Modifier;
import java.util.Set;
import java.util.TreeSet;

/** The face has just the document's members, and what a run makes stays small. */
public final class FaceTest {
    private static final String[] FACE = {
        "NONE -1", "FULL -2", "BAD_TEXT -3", "new",
        "int feed(int int int int int)", "int load(int) IllegalArgumentException", "int errorKind()", "int errorPosition()", "int points()",
        "int mode()", "int degree()", "int point(int int) IndexOutOfBoundsException IllegalArgumentException",
        "int pointAt(int) IllegalArgumentException NoSuchElementException", "long weight(int) IndexOutOfBoundsException",
        "boolean isAlternating()", "long weightSum()", "int degreeOf(boolean)", "long coefficient(boolean int) IllegalArgumentException",
        "int kindAt(int) IllegalArgumentException", "long value(int int) IllegalArgumentException NoSuchElementException",
        "double about(int) IllegalArgumentException NoSuchElementException", "boolean isMet(int) IndexOutOfBoundsException", "int missed()",
        "int many(int)", "int hiddenPoles()", "int nextPole(int) IllegalArgumentException NoSuchElementException",
        "int extreme(boolean) NoSuchElementException",
        "long row(int int int) IndexOutOfBoundsException IllegalArgumentException IllegalStateException",
        "long slope(int int) IndexOutOfBoundsException IllegalArgumentException IllegalStateException",
        "int steepest() NoSuchElementException", "long divided(int int int) IndexOutOfBoundsException IllegalArgumentException",
        "long plainValue(int int) IllegalArgumentException NoSuchElementException",
        "long valueIf(int int int int) IndexOutOfBoundsException IllegalArgumentException IllegalStateException NoSuchElementException",
        "long valueWithout(int int int) IndexOutOfBoundsException IllegalArgumentException NoSuchElementException",
        "int bestPlace(int int) IndexOutOfBoundsException IllegalArgumentException NoSuchElementException",
        "int move(int int) IndexOutOfBoundsException IllegalArgumentException IllegalStateException",
        "int setValue(int int) IndexOutOfBoundsException IllegalArgumentException",
        "int setWeight(int int) IndexOutOfBoundsException IllegalArgumentException",
        "int addPoint(int int int) IllegalArgumentException IllegalStateException", "int removePoint(int) IndexOutOfBoundsException",
        "int setMode(int int) IllegalArgumentException", "int shift(int) IllegalArgumentException IllegalStateException", "int mirror()",
        "int undo()", "int write(boolean)", "int writeValues()", "char written(int) IndexOutOfBoundsException"};

    public static void main(String[] args) throws IllegalAccessException {
        face();
        names();
        room();
        Script.end();
    }

    private static void face() throws IllegalAccessException {
        Set<String> found = new TreeSet<>();
        for (Field field : WeightedNodes.class.getDeclaredFields()) {
            if (!Modifier.isPrivate(field.getModifiers())) {
                found.add(field.getName() + " " + field.getInt(null));
            }
        }
        for (Constructor<?> constructor : WeightedNodes.class.getDeclaredConstructors()) {
            found.add(Modifier.isPublic(constructor.getModifiers()) && constructor.getParameterCount() == 0 ? "new" : "new, another");
        }
        for (Method method : WeightedNodes.class.getDeclaredMethods()) {
            if (!Modifier.isPrivate(method.getModifiers()) && !method.isSynthetic()) {
                found.add(signature(method));
            }
        }
        Script.due("the face", found, new TreeSet<>(Set.of(FACE)));
        Script.due("public and final", Modifier.toString(WeightedNodes.class.getModifiers()), "public final");
    }

    private static String signature(Method method) {
        StringBuilder text = new StringBuilder(method.getReturnType() + " " + method.getName() + "(");
        for (Class<?> type : method.getParameterTypes()) {
            text.append(text.charAt(text.length() - 1) == '(' ? "" : " ").append(type);
        }
        text.append(")");
        for (Class<?> type : method.getExceptionTypes()) {
            text.append(" ").append(type.getSimpleName());
        }
        return text.toString();
    }

    /** No method of its own bears the name of a public one. */
    private static void names() {
        Set<String> open = new TreeSet<>();
        Set<String> twice = new TreeSet<>();
        for (Method method : WeightedNodes.class.getDeclaredMethods()) {
            if (Modifier.isPublic(method.getModifiers())) {
                open.add(method.getName());
            }
        }
        for (Method method : WeightedNodes.class.getDeclaredMethods()) {
            if (!Modifier.isPublic(method.getModifiers()) && open.contains(method.getName())) {
                twice.add(method.getName());
            }
        }
        Script.due("private methods with public names", twice, Set.of());
    }

    /** The dearest calls make no objects; the limit leaves room for what the machine itself makes. */
    private static void room() {
        com.sun.management.ThreadMXBean bean = (com.sun.management.ThreadMXBean) ManagementFactory.getThreadMXBean();
        WeightedNodes nodes = new WeightedNodes();
        long thread = Thread.currentThread().getId();
        long made = 0;
        for (int turn = 0; turn < 3; turn++) {
            long before = bean.getThreadAllocatedBytes(thread);
            for (int k = 0; k < 500; k++) {
                useAll(nodes);
            }
            made = bean.getThreadAllocatedBytes(thread) - before;
        }
        Script.due("500 times all calls make at most 100000 bytes", made <= 100000, true);
    }

    private static void useAll(WeightedNodes nodes) {
        nodes.load(0);
        for (int k = 0; k < 5; k++) {
            nodes.addPoint(2 * k - 4, 3 * k, k - 9);
        }
        nodes.setMode(1, 2);
        nodes.extreme(true);
        nodes.steepest();
        nodes.row(0, 1, 0);
        nodes.bestPlace(2, 7);
        nodes.valueIf(1, 5, 3, 0);
        nodes.valueWithout(1, 3, 0);
        nodes.plainValue(3, 1);
        nodes.divided(0, 4, 0);
        nodes.writeValues();
        nodes.write(true);
        nodes.written(0);
        nodes.missed();
        nodes.many(0);
        nodes.shift(1);
        nodes.mirror();
        nodes.removePoint(0);
        nodes.undo();
        // "poin" "t 1 " "2;pl" "ain;" and four spaces.
        nodes.feed(1886349678, 1948266784, 842756204, 1634299451, 538976288);
        nodes.load(16);
    }
}
