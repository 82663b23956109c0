import java.util.ArrayList;
import java.util.LinkedHashSet;
import java.util.List;
import java.util.Set;

/**
 * Every parameter of every method with the first and the last number of its range, those that are too small or
 * too large by one, and the ends of int, in every mix: "A point or other index that does not exist throws
 * IndexOutOfBoundsException; this is checked first. A parameter that is out of its range throws
 * IllegalArgumentException; this is checked next." In range the Model says what is due, errors that are
 * "checked last" among them. Then all that can be seen must be as before if the call threw ("changes nothing"),
 * and as in the Model if it did not.
 */
public final class RangesTest {
    private static final String INDEX = "IndexOutOfBoundsException";
    private static final String ARGUMENT = "IllegalArgumentException";

    // A method and the sorts of its parameters: p a point, i an index of the output, n a length of a text; in
    // brackets the first and the last number of a range; k any number; b a boolean.
    private static final String[] CALLS = {
        "load n", "errorKind", "errorPosition", "points", "mode", "degree", "point p [0..3]", "pointAt [-12..12]", "weight p",
        "isAlternating", "weightSum", "degreeOf b", "coefficient b [0..4]", "kindAt [-12..12]", "value [-12..12] [0..1]",
        "about [-12..12]", "isMet p", "missed", "many k", "hiddenPoles", "nextPole [-12..12]", "extreme b", "row p p [0..1]",
        "slope p [0..1]", "steepest", "divided p p [0..1]", "plainValue [-12..12] [0..1]",
        "valueIf p [-9..9] [-12..12] [0..1]", "valueWithout p [-12..12] [0..1]", "bestPlace p [-12..12]", "move p [-9..9]",
        "setValue p [-20..20]", "setWeight p [-9..9]", "addPoint [-9..9] [-20..20] [-9..9]", "removePoint p",
        "setMode [0..2] [0..4]", "shift [-18..18]", "mirror", "undo", "write b", "writeValues", "written i"};

    // Each ends with edits to undo, an error, something written and bytes in the buffer.
    private static final String[][] STATES = {
        {"addPoint 4 5 6", "removePoint 0", "write 0", "text told", "fed  point 1 2;"},
        {"text point 3 -4 weight 5;", "setMode 1 4", "setValue 0 7", "write 1", "text point 1 1;point 1", "fed told;"},
        {"text point 0 1;point 2 3;told;", "mirror", "mirror", "writeValues", "text + ", "fed point 1 2;+"},
        {"text point 0 0 weight 0;point -5 3 weight 0;told;", "setWeight 1 0", "writeValues", "text blend 5;", "fed  "},
        {"text point 1 2;point 2 5 weight 0;point -9 4 weight 7;told;", "addPoint 9 -20 -9", "write 0", "text plain plain;", "fed plain;"},
        {"text point 9 20;point -9 -20;point 8 19;point -8 -19;blend 3;", "addPoint 0 1 1", "shift 0", "mirror", "setMode 1 1",
            "move 0 -9", "setValue 2 -19", "setWeight 4 -9", "shift 0", "mirror", "mirror", "removePoint 1", "addPoint 7 7 7", "write 0",
            "text point 10 0;", "fed point 9 9;blend 4;point 8 8;"}};

    private final String[] state;
    private final String before;
    private final int points;
    private final int bytes;
    private final int written;

    private RangesTest(String[] state) {
        this.state = state;
        Pair pair = new Pair(state);
        points = pair.model.state.points.size();
        bytes = pair.model.bytes();
        written = pair.model.signs();
        before = Look.at(pair::ofModel);
    }

    public static void main(String[] args) {
        for (String[] state : STATES) {
            RangesTest test = new RangesTest(state);
            for (String call : CALLS) {
                String[] words = call.split(" ");
                test.mixes(words, new int[words.length - 1], 0);
            }
        }
        Script.end();
    }

    private void mixes(String[] call, int[] values, int from) {
        if (from == values.length) {
            check(call, values);
            return;
        }
        for (int value : candidates(call[from + 1])) {
            values[from] = value;
            mixes(call, values, from + 1);
        }
    }

    private List<Integer> candidates(String sort) {
        if (sort.equals("b")) {
            return List.of(0, 1);
        }
        if (sort.equals("k")) {
            return List.of(-1, 0, 1, 2, 3, 4, Integer.MIN_VALUE, Integer.MAX_VALUE);
        }
        int first = first(sort);
        int last = last(sort);
        Set<Integer> values = new LinkedHashSet<>(List.of(first - 1, first, (first + last) / 2, last, last + 1,
            Integer.MIN_VALUE, Integer.MAX_VALUE));
        return new ArrayList<>(values);
    }

    private int first(String sort) {
        return sort.startsWith("[") ? Integer.parseInt(sort.substring(1, sort.indexOf('.'))) : 0;
    }

    private int last(String sort) {
        switch (sort) {
            case "p": return points - 1;
            case "n": return bytes;
            case "i": return written - 1;
            default: return Integer.parseInt(sort.substring(sort.lastIndexOf('.') + 1, sort.length() - 1));
        }
    }

    private boolean isOut(String sort, int value) {
        return !sort.equals("b") && !sort.equals("k") && (value < first(sort) || value > last(sort));
    }

    /** The error that the ranges alone tell; null if they tell none. */
    private String outOfRange(String[] call, int[] values) {
        String due = null;
        for (int k = 0; k < values.length; k++) {
            if (isOut(call[k + 1], values[k])) {
                boolean index = call[k + 1].equals("p") || call[k + 1].equals("i");
                due = index || INDEX.equals(due) ? INDEX : ARGUMENT;
            }
        }
        return due;
    }

    private void check(String[] call, int[] values) {
        String title = String.join("; ", state) + ": " + call[0] + java.util.Arrays.toString(values);
        String out = outOfRange(call, values);
        Pair pair = new Pair(state);
        String due = out != null ? out : pair.ofModel(call[0], values);
        String got = pair.ofNodes(call[0], values);
        Script.due(title, got, due);
        if (got.endsWith("Exception")) {
            Script.due(title + " changes nothing", Look.at(pair::ofNodes), before);
        } else {
            Script.due("what is seen after " + title, Look.at(pair::ofNodes), Look.at(pair::ofModel));
        }
    }
}
