import java.io.IOException;
import java.lang.reflect.Method;
import java.lang.reflect.Modifier;
import java.nio.file.Files;
import java.nio.file.Path;
import java.util.regex.Matcher;
import java.util.regex.Pattern;

/** The examples of README.md: each "nodes.call(..); // answer" must answer what stands there. */
public final class ReadmeTest {
    private static final Pattern CALL = Pattern.compile("nodes\\.(\\w+\\(.*\\)); // (\\S+)");
    private static final Pattern HEX = Pattern.compile("0x\\p{XDigit}+");
    private static final String MADE = "WeightedNodes nodes = new WeightedNodes();";

    public static void main(String[] args) throws IOException {
        String page = Files.readString(Path.of("README.md"));
        Script.due("calls on the page", examples(page), 79);
        namesAll(page);
        feedsText(page);
        Script.end();
    }

    private static int examples(String page) {
        WeightedNodes nodes = new WeightedNodes();
        int calls = 0;
        for (String line : page.split("\n")) {
            Matcher call = CALL.matcher(line);
            if (line.equals(MADE)) {
                nodes = new WeightedNodes();
            } else if (call.matches()) {
                String plain = HEX.matcher(call.group(1)).replaceAll(found -> "" + Integer.decode(found.group()));
                Script.go(nodes, "README.md", plain + " = " + call.group(2));
                calls++;
            }
        }
        return calls;
    }

    private static void namesAll(String page) {
        for (Method method : WeightedNodes.class.getDeclaredMethods()) {
            if (Modifier.isPublic(method.getModifiers())) {
                boolean named = page.contains("`" + method.getName() + "`") || page.contains("`" + method.getName() + "(");
                Script.due("the page tells of " + method.getName(), named, true);
            }
        }
    }

    /** The page's loop is the one below, but for the place it stands in. */
    private static void feedsText(String page) throws IOException {
        String own = Files.readString(Path.of("src/test/java/ReadmeTest.java"));
        int from = page.indexOf("static void feedText");
        String loop = page.substring(from, page.indexOf("```", from));
        Script.due("the loop of the page is tested", own.replaceAll("\\s+", " ").contains(loop.replaceAll("\\s+", " ").trim()), true);
        WeightedNodes nodes = new WeightedNodes();
        String text = "point -9 20 weight 3;\nblend 2;point 4 -1;";
        feedText(nodes, text);
        Script.go(nodes, "the page's loop", "load(" + text.length() + ") = 2", "point(0, 0) = -9", "point(1, 1) = -1", "mode() = 1");
    }

    private static void feedText(WeightedNodes nodes, String text) {
        for (int from = 0; from < text.length(); from += 20) {
            int[] words = new int[5];
            for (int k = 0; k < 20; k++) {
                char sign = from + k < text.length() ? text.charAt(from + k) : ' ';
                words[k / 4] = words[k / 4] << 8 | sign;
            }
            nodes.feed(words[0], words[1], words[2], words[3], words[4]);
        }
    }
}
