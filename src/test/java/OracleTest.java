import java.util.Random;

/** Long runs of calls drawn with fixed seeds, each answer held against the Model's. */
public final class OracleTest {
    private static final String[] NAMES = {
        "feed", "load", "errorKind", "errorPosition", "points", "mode", "degree", "point", "pointAt", "weight",
        "isAlternating", "weightSum", "degreeOf", "coefficient", "kindAt", "value", "about", "isMet", "missed",
        "many", "hiddenPoles", "nextPole", "extreme", "row", "slope", "steepest", "divided", "plainValue",
        "valueIf", "valueWithout", "bestPlace", "move", "setValue", "setWeight", "addPoint", "removePoint",
        "setMode", "shift", "mirror", "undo", "write", "writeValues", "written"};
    // The sorts of the parameters: p a point, x a place that is asked for, t a place of a point, y and w its
    // numbers, f a part of a fraction, b a boolean, m a mode, d a degree or power, s a shift, k a kind, i an index,
    // r any number.
    private static final String[] SORTS = {
        "rrrrr", "r", "", "", "", "", "", "pk", "x", "p",
        "", "", "b", "bd", "x", "xf", "x", "p", "",
        "k", "", "x", "b", "ppf", "pf", "", "ppf", "xf",
        "ptxf", "pxf", "px", "pt", "py", "pw", "tyw", "p",
        "md", "s", "", "", "b", "", "i"};
    private static final int[] WILD = {Integer.MIN_VALUE, Integer.MAX_VALUE, -1000, 1000, 401, -3};

    private final Random random;
    private final Model model = new Model();
    private final WeightedNodes nodes = new WeightedNodes();
    private final String title;
    private int calls = 0;

    private OracleTest(int seed) {
        random = new Random(seed);
        title = "seed " + seed;
    }

    public static void main(String[] args) {
        int runs = args.length > 0 ? Integer.parseInt(args[0]) : 500;
        for (int seed = 0; seed < runs; seed++) {
            new OracleTest(seed).run();
        }
        Script.end();
    }

    private void run() {
        boolean edits = random.nextBoolean();
        // What comes last, a text or a written polynomial, takes less than 112 calls.
        while (calls < 400) {
            if (random.nextInt(60) == 0 || calls == 0) {
                load();
            } else {
                int which = random.nextInt(NAMES.length);
                if (which < 2 && random.nextInt(4) > 0 || !edits && which >= 31 && which <= 39) {
                    continue;
                }
                call(NAMES[which], arguments(SORTS[which]));
            }
        }
    }

    private void call(String name, int... values) {
        calls++;
        String got = Script.answer(nodes, name, values);
        Script.due(title + ", call " + calls + ": " + name + java.util.Arrays.toString(values), got, model.answer(name, values));
        if (name.startsWith("write") && !name.equals("written")) {
            StringBuilder due = new StringBuilder();
            for (int k = 0; k < Integer.parseInt(got); k++) {
                due.append(model.answer("written", k));
            }
            Script.due(title + ", call " + calls + ": the text of " + name, Script.writtenText(nodes), due);
            calls += due.length() + 1;
        }
    }

    private int[] arguments(String sorts) {
        int[] values = new int[sorts.length()];
        for (int k = 0; k < values.length; k++) {
            values[k] = argument(sorts.charAt(k));
        }
        return values;
    }

    private int argument(char sort) {
        int n = model.state.points.size();
        boolean wild = random.nextInt(25) == 0;
        switch (sort) {
            case 'p': return wild ? any(-1, n) : any(0, Math.max(0, n - 1));
            case 'x': return wild ? any(-13, 13) : any(-12, 12);
            case 't': return wild ? any(-10, 10) : any(-9, 9);
            case 'y': return wild ? any(-21, 21) : any(-20, 20);
            case 'w': return wild ? any(-10, 10) : any(-9, 9);
            case 'f': return wild ? any(-1, 2) : any(0, 1);
            case 'b': return random.nextInt(2);
            case 'm': return wild ? any(-1, 3) : any(0, 2);
            case 'd': return wild ? any(-1, 5) : any(0, 4);
            case 's': return wild ? any(-19, 19) : any(-5, 5);
            case 'k': return wild ? any(-1, 4) : any(0, 3);
            case 'i': return any(-1, 30);
            default: return random.nextInt();
        }
    }

    private int any(int first, int last) {
        boolean edge = first != 0 && random.nextInt(10) == 0;
        return edge && random.nextInt(4) == 0 ? WILD[random.nextInt(WILD.length)]
                : edge ? (random.nextBoolean() ? first : last) : first + random.nextInt(last - first + 1);
    }

    private void load() {
        String text = text();
        for (int turn = random.nextInt(4); turn > 1; turn--) {
            text = spoil(text);
        }
        text = text.length() > 400 ? text.substring(0, 400) : text;
        if (random.nextInt(10) > 0) {
            // What an earlier feed left is emptied first.
            call("load", 0);
        }
        for (int from = 0; from < text.length(); from += 20) {
            int[] words = new int[5];
            for (int k = 0; k < 20; k++) {
                words[k / 4] = words[k / 4] << 8 | (from + k < text.length() ? text.charAt(from + k) : ' ');
            }
            call("feed", words);
        }
        call("load", random.nextInt(20) == 0 ? text.length() + any(-9, 60) : text.length());
        call("errorKind");
        call("errorPosition");
        call("points");
    }

    private String text() {
        StringBuilder text = new StringBuilder();
        int statements = random.nextInt(8);
        boolean near = random.nextBoolean();
        for (int k = 0; k < statements; k++) {
            switch (random.nextInt(8)) {
                case 0: text.append("plain"); break;
                case 1: text.append("told"); break;
                case 2: text.append("blend").append(gap()).append(random.nextInt(30) == 0 ? 5 : random.nextInt(5)); break;
                default:
                    text.append("point").append(gap()).append(number(near ? 3 : 9)).append(gapOrSpace()).append(number(20));
                    if (random.nextInt(3) > 0) {
                        text.append(gap()).append("weight").append(gap()).append(number(near ? 2 : 9));
                    }
            }
            text.append(gap()).append(';').append(gap());
        }
        return text.toString();
    }

    private String number(int end) {
        int number = random.nextInt(40) == 0 ? end + 1 : random.nextInt(end + 1);
        String sign = random.nextBoolean() ? "-" + gap() : "";
        return sign + (number < 10 && random.nextInt(10) == 0 ? "0" : "") + number;
    }

    private String gap() {
        int sort = random.nextInt(8);
        return sort == 0 ? "\n" : sort == 1 ? "  " : sort == 2 ? "" : sort < 5 ? " " : "";
    }

    private String gapOrSpace() {
        String gap = gap();
        return gap.isEmpty() ? " " : gap;
    }

    private String spoil(String text) {
        int at = random.nextInt(text.length() + 1);
        int end = Math.min(text.length(), at + random.nextInt(4));
        switch (random.nextInt(4)) {
            case 0: return text.substring(0, at);
            case 1: return text.substring(0, at) + text.substring(end);
            case 2: return text.substring(0, at) + (char) random.nextInt(256) + text.substring(at);
            default:
                String[] words = {"point", "weight", "plain", "blend", "told", "-", ";", "7", "10", "007", "weighting", "x", "20", "0"};
                return text.substring(0, at) + words[random.nextInt(words.length)] + text.substring(at);
        }
    }
}
