import java.lang.reflect.InvocationTargetException;
import java.lang.reflect.Method;
import java.nio.charset.StandardCharsets;
import java.util.ArrayList;
import java.util.HashMap;
import java.util.List;
import java.util.Map;

/**
 * Runs lines of the form "call = answer" on one object and counts what is not as due.
 * An exception is due by its simple name. Besides the calls of the class there are
 * "load TEXT = answer", which feeds the text first ("|" in it is a line feed), and
 * "shows write(false) = TEXT", which reads what the call wrote.
 */
final class Script {
    private static final Map<String, Method> FACE = new HashMap<>();
    private static int passed = 0;
    private static int failed = 0;

    static {
        for (Method method : WeightedNodes.class.getDeclaredMethods()) {
            if (java.lang.reflect.Modifier.isPublic(method.getModifiers())) {
                FACE.put(method.getName(), method);
            }
        }
    }

    private Script() {
    }

    static WeightedNodes run(String title, String... lines) {
        return go(new WeightedNodes(), title, lines);
    }

    static WeightedNodes go(WeightedNodes nodes, String title, String... lines) {
        for (String line : lines) {
            int mark = line.lastIndexOf(" = ");
            String call = line.substring(0, mark).trim();
            due(title + ": " + call, answerLine(nodes, call), line.substring(mark + 3).trim());
        }
        return nodes;
    }

    static void due(String what, Object got, Object want) {
        if (String.valueOf(got).equals(String.valueOf(want))) {
            passed++;
        } else {
            failed++;
            System.out.println(what + " answered " + got + ", due is " + want);
        }
    }

    static void end() {
        System.out.println(passed + " passed, " + failed + " failed");
        if (failed != 0) {
            System.exit(1);
        }
    }

    /** The answer to a call whose parameters are numbers; of a boolean one 1 is true. */
    static String answer(WeightedNodes nodes, String name, int... values) {
        Class<?>[] types = FACE.get(name).getParameterTypes();
        Object[] objects = new Object[values.length];
        for (int k = 0; k < values.length; k++) {
            objects[k] = types[k] == boolean.class ? (Object) (values[k] == 1) : (Object) values[k];
        }
        return invoke(nodes, name, objects);
    }

    private static String answerLine(WeightedNodes nodes, String call) {
        if (call.startsWith("load ")) {
            return loadText(nodes, call.substring(5).replace('|', '\n'));
        }
        if (call.startsWith("shows ")) {
            return shown(nodes, call.substring(6));
        }
        return invokeLine(nodes, call);
    }

    static String loadText(WeightedNodes nodes, String text) {
        feedText(nodes, text);
        return invokeLine(nodes, "load(" + text.length() + ")");
    }

    static int feedText(WeightedNodes nodes, String text) {
        int answer = 0;
        for (int[] words : wordsOf(text)) {
            answer = nodes.feed(words[0], words[1], words[2], words[3], words[4]);
        }
        return answer;
    }

    /** The parameters of the feeds that bring a text, the last one filled up with spaces. */
    static List<int[]> wordsOf(String text) {
        byte[] bytes = text.getBytes(StandardCharsets.ISO_8859_1);
        List<int[]> feeds = new ArrayList<>();
        for (int from = 0; from < bytes.length; from += 20) {
            int[] words = new int[5];
            for (int k = 0; k < 20; k++) {
                int sign = from + k < bytes.length ? bytes[from + k] & 255 : ' ';
                words[k / 4] = words[k / 4] << 8 | sign;
            }
            feeds.add(words);
        }
        return feeds;
    }

    private static String shown(WeightedNodes nodes, String call) {
        int length = Integer.parseInt(invokeLine(nodes, call));
        String text = writtenText(nodes);
        return text.length() == length ? text : text + " with the count " + length;
    }

    static String writtenText(WeightedNodes nodes) {
        StringBuilder text = new StringBuilder();
        try {
            for (int k = 0; k < 1000; k++) {
                text.append(nodes.written(k));
            }
        } catch (IndexOutOfBoundsException e) {
            return text.toString();
        }
        return text.toString();
    }

    private static String invokeLine(WeightedNodes nodes, String call) {
        int open = call.indexOf('(');
        String inside = call.substring(open + 1, call.length() - 1).trim();
        String[] words = inside.isEmpty() ? new String[0] : inside.split("\\s*,\\s*");
        Object[] values = new Object[words.length];
        for (int k = 0; k < words.length; k++) {
            if (words[k].equals("true") || words[k].equals("false")) {
                values[k] = Boolean.valueOf(words[k]);
            } else {
                values[k] = Integer.valueOf(words[k]);
            }
        }
        return invoke(nodes, call.substring(0, open), values);
    }

    static String invoke(WeightedNodes nodes, String name, Object... values) {
        try {
            return String.valueOf(FACE.get(name).invoke(nodes, values));
        } catch (InvocationTargetException e) {
            return e.getCause().getClass().getSimpleName();
        } catch (IllegalAccessException e) {
            return e.toString();
        }
    }
}
