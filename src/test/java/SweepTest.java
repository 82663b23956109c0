import java.util.function.IntConsumer;

/**
 * Every question with every parameter that is in range, on states at the edges of the document, held against the
 * Model: no point, one, the most, weights of 0, gaps, poles and nothing, ties, and the greatest numbers.
 */
public final class SweepTest {
    private static final String[][] STATES = {
        {},
        {"text blend 4;"},
        {"text point -9 20;"},
        {"text point 9 -20 weight 0;told;"},
        // A pole at 1; then a gap there, and a hidden pole that is a gap.
        {"text point 0 1;point 2 3;told;"},
        {"text point 0 5;point 2 5;told;"},
        {"text point 0 5;point 1 5;told;"},
        // The denominator 2(x - 1)^2: nothing at 1, then a pole at 1.
        {"text point 0 5;point 1 5 weight 0;point 2 5;told;"},
        {"text point 0 5;point 1 5 weight 0;point 2 6;told;"},
        {"text point 0 0;point 1 2;point 2 5 weight 0;told;"},
        {"text point 3 1 weight 0;point 1 2 weight 0;point 2 5 weight 0;told;"},
        {"text point 9 1 weight -5;point 8 2 weight 7;told;"},
        // All weights but one are 0, so there are gaps at all other points.
        {"text point -9 1 weight 0;point 9 2 weight 0;point 0 5 weight -9;point 1 6 weight 0;point -1 7 weight 0;told;"},
        {"text point -9 20 weight 9;point 9 -20 weight -9;point 0 19 weight 8;point -8 -19 weight -7;point 8 18 weight 9;told;"},
        {"text point -2 0 weight 1;point -1 0 weight -4;point 0 9 weight 6;point 1 0 weight -4;point 2 0 weight 1;told;"},
        {"text point -9 -20;point -8 20;point -6 -20;point 5 -20;point 9 20;blend 3;"},
        {"text point -6 18;point 2 -19;point 5 20;point 6 -20;point 7 20;plain;"},
        {"text point 9 -12;point 7 -3;point -4 7;point -7 3;point -9 -14;blend 2;"},
        {"text point 8 20;point -9 -18;point 2 20;point 9 -20;point 4 -19;blend 4;"},
        {"text point 8 20;point -9 -18;point 2 20;point 9 -20;point 4 -19;blend 1;"},
        {"text point 8 20;point -9 -18;point 2 20;point 9 -20;point 4 -19;blend 0;"},
        {"text point 4 20;point -3 -20;blend 0;"}};

    // An object is used for at most 512 calls, so it is made anew in time.
    private static final int MOST_CALLS = 400;

    private final String[] state;
    private final String title;
    private Pair pair;
    private int calls = 0;

    private SweepTest(String[] state) {
        this.state = state;
        pair = new Pair(state);
        title = String.join("; ", state);
    }

    public static void main(String[] args) {
        for (String[] state : STATES) {
            new SweepTest(state).sweep();
        }
        Script.end();
    }

    private void ask(String name, int... values) {
        calls++;
        if (calls > MOST_CALLS && !name.equals("written")) {
            pair = new Pair(state);
            calls = 0;
        }
        Script.due(title + ": " + name + java.util.Arrays.toString(values), pair.ofNodes(name, values), pair.ofModel(name, values));
    }

    private static void each(int first, int last, IntConsumer with) {
        for (int number = first; number <= last; number++) {
            with.accept(number);
        }
    }

    private void sweep() {
        int last = pair.model.state.points.size() - 1;
        for (String name : new String[] {"points", "mode", "degree", "isAlternating", "weightSum", "missed", "hiddenPoles", "steepest"}) {
            ask(name);
        }
        each(0, 1, of -> {
            ask("degreeOf", of);
            ask("extreme", of);
            each(0, 4, power -> ask("coefficient", of, power));
            output("write", of);
        });
        output("writeValues");
        each(-3, 6, kind -> ask("many", kind));
        each(-12, 12, x -> {
            ask("kindAt", x);
            ask("about", x);
            ask("nextPole", x);
            ask("pointAt", x);
            each(0, 1, what -> {
                ask("value", x, what);
                ask("plainValue", x, what);
            });
        });
        each(0, last, point -> ofPoint(point, last));
    }

    private void ofPoint(int point, int last) {
        ask("weight", point);
        ask("isMet", point);
        each(0, 3, which -> ask("point", point, which));
        each(-12, 12, x -> ask("bestPlace", point, x));
        each(0, 1, what -> {
            ask("slope", point, what);
            each(0, last, other -> ask("row", point, other, what));
            each(0, last, other -> ask("divided", point, other, what));
            each(-12, 12, x -> ask("valueWithout", point, x, what));
            each(-9, 9, to -> each(-12, 12, x -> ask("valueIf", point, to, x, what)));
        });
    }

    private void output(String name, int... values) {
        ask(name, values);
        each(0, pair.model.signs(), k -> ask("written", k));
    }
}
