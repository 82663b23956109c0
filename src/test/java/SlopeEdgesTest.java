/** The sections DERIVATIVES and DIVIDED DIFFERENCES and promises 25 to 32, a sentence at a time, at their edges. */
public final class SlopeEdgesTest {
    private static final String THREE = "load point 0 1;point 1 3;point 3 1; = 3";
    private static final String ALL_ZERO = "load point 0 1 weight 0;point 2 3 weight 0;told; = 2";

    public static void main(String[] args) {
        rows();
        noWeight();
        steepest();
        divided();
        plainValue();
        valueIf();
        valueWithout();
        bestPlace();
        bestPlaceEnds();
        Script.end();
    }

    private static void rows() {
        // "for k itself minus the sum of all others": without others that is 0.
        Script.run("one point", "load point -9 20; = 1", "row(0, 0, 0) = 0", "row(0, 0, 1) = 1", "slope(0, 0) = 0", "slope(0, 1) = 1",
            "row(0, 1, 0) = IndexOutOfBoundsException", "row(1, 0, 0) = IndexOutOfBoundsException", "steepest() = 0");
        Script.run("two points", "load point 0 1;point 1 3; = 2", "row(0, 1, 0) = 1", "row(0, 1, 1) = 1", "row(0, 0, 0) = -1",
            "row(0, 0, 1) = 1", "row(1, 0, 0) = -1", "row(1, 0, 1) = 1", "row(1, 1, 0) = 1", "row(1, 1, 1) = 1", "slope(0, 0) = 2",
            "slope(1, 0) = 2", "slope(1, 1) = 1");
        Script.run("as far apart as can be", "load point -9 20;point 9 -20; = 2", "row(0, 1, 0) = 1", "row(0, 1, 1) = 18", "row(1, 0, 0) = -1",
            "row(1, 0, 1) = 18", "slope(0, 0) = -20", "slope(0, 1) = 9", "divided(0, 1, 0) = -20", "divided(0, 1, 1) = 9");
        Script.run("no point", "row(0, 0, 0) = IndexOutOfBoundsException", "slope(0, 0) = IndexOutOfBoundsException",
            "row(-1, 0, 0) = IndexOutOfBoundsException", "slope(-1, 0) = IndexOutOfBoundsException");
    }

    private static void noWeight() {
        // A weight of 0 of the point itself is refused, after the errors of the parameters; of another it is 0 / 1.
        Script.run("a weight of 0", "load point 0 1 weight 0;point 1 3 weight 2;told; = 2", "row(0, 0, 0) = IllegalStateException",
            "row(0, 1, 1) = IllegalStateException", "row(0, 1, 2) = IllegalArgumentException", "row(0, 1, -1) = IllegalArgumentException",
            "row(0, 2, 2) = IndexOutOfBoundsException", "row(0, 2, 0) = IndexOutOfBoundsException", "row(2, 0, 0) = IndexOutOfBoundsException",
            "row(0, -1, 0) = IndexOutOfBoundsException", "slope(0, 0) = IllegalStateException", "slope(0, 1) = IllegalStateException",
            "slope(0, 2) = IllegalArgumentException", "slope(0, -1) = IllegalArgumentException", "slope(2, 2) = IndexOutOfBoundsException",
            "row(1, 0, 0) = 0", "row(1, 0, 1) = 1", "row(1, 1, 0) = 0", "slope(1, 0) = 0", "slope(1, 1) = 1", "steepest() = 1",
            "setMode(0, 0) = 2", "slope(0, 0) = 2", "row(0, 1, 0) = 1");
    }

    private static void steepest() {
        Script.run("no point", "steepest() = NoSuchElementException");
        Script.run("all weights 0", ALL_ZERO, "steepest() = NoSuchElementException", "setWeight(1, -9) = 0", "steepest() = 1");
        // "the one with the smallest number of several", all of them less than 0.
        Script.run("down", "load point 2 -2;point 0 0;point 1 -1; = 3", "steepest() = 0", "slope(0, 0) = -1", "removePoint(0) = 2",
            "steepest() = 0", "mirror() = 2", "steepest() = 0", "slope(0, 0) = 1");
        // x^2 and -x^2 - 1.
        Script.run("the greatest, not the one farthest from 0", "load point 0 0;point 1 1;point -1 1; = 3", "steepest() = 1",
            "setValue(1, -1) = 1", "setValue(2, -1) = 1", "steepest() = 2", "slope(2, 0) = 2", "removePoint(2) = 2", "slope(0, 0) = -1",
            "slope(1, 0) = -1", "steepest() = 0");
        Script.run("fractions", "load point 0 0;point 1 -3;point 2 -4;point -3 20; = 4", "slope(0, 0) = -119", "slope(0, 1) = 30",
            "slope(1, 0) = -121", "slope(1, 1) = 60", "slope(2, 0) = 1", "slope(2, 1) = 30", "slope(3, 0) = -553", "slope(3, 1) = 60",
            "steepest() = 2");
        // The steepest of all has the weight 0, so it does not count.
        Script.run("only those with a weight", "load point 0 1 weight 0;point 1 3 weight 2;point 3 1 weight 4;told; = 3",
            "slope(1, 0) = 2", "slope(2, 0) = 1", "slope(2, 1) = 2", "steepest() = 1");
    }

    private static void divided() {
        // "[k] is Y of k": nothing is divided.
        Script.run("first and last the same", THREE, "divided(0, 0, 0) = 1", "divided(0, 0, 1) = 1", "divided(1, 1, 0) = 3",
            "divided(2, 2, 0) = 1", "divided(2, 2, 1) = 1", "setValue(2, -20) = 1", "divided(2, 2, 0) = -20");
        Script.run("first greater than last", THREE, "divided(1, 0, 0) = IllegalArgumentException", "divided(2, 1, 0) = IllegalArgumentException",
            "divided(2, 0, 1) = IllegalArgumentException", "divided(2, 0, 2) = IllegalArgumentException",
            "divided(3, 0, 0) = IndexOutOfBoundsException", "divided(0, 3, 2) = IndexOutOfBoundsException",
            "divided(0, -1, 0) = IndexOutOfBoundsException", "divided(-1, 0, 0) = IndexOutOfBoundsException");
        // "in the order of their numbers", whatever their X and weights are.
        Script.run("in the order of their numbers", "load point 9 20 weight 0;point -9 -20 weight 0;point 8 20 weight 0;told; = 3",
            "divided(0, 1, 0) = 20", "divided(0, 1, 1) = 9", "divided(1, 2, 0) = 40", "divided(1, 2, 1) = 17", "divided(0, 2, 0) = -20",
            "divided(0, 2, 1) = 153", "removePoint(1) = 2", "divided(0, 1, 0) = 0", "divided(0, 1, 1) = 1");
        Script.run("no point", "divided(0, 0, 0) = IndexOutOfBoundsException", "divided(0, 0, 9) = IndexOutOfBoundsException");
    }

    private static void plainValue() {
        Script.run("no point", "plainValue(0, 0) = NoSuchElementException", "plainValue(12, 1) = NoSuchElementException",
            "plainValue(13, 0) = IllegalArgumentException", "plainValue(0, -1) = IllegalArgumentException");
        // "whatever the mode is", and whatever was asked before.
        Script.run("all weights 0", ALL_ZERO, "plainValue(1, 0) = 2", "plainValue(12, 0) = 13", "plainValue(-12, 0) = -11",
            "value(1, 0) = NoSuchElementException", "mode() = 2");
        Script.run("after other questions", THREE, "valueIf(2, 2, 3, 0) = -5", "plainValue(3, 0) = 1", "valueWithout(2, 3, 0) = 7",
            "plainValue(3, 0) = 1", "bestPlace(0, 12) = 2", "plainValue(3, 0) = 1", "load point 5 5;x = -3", "plainValue(3, 0) = 1",
            "setMode(1, 0) = 0", "valueIf(0, 9, 4, 0) = 3", "valueIf(0, 9, 4, 1) = 13", "plainValue(3, 0) = 1", "setValue(2, 4) = 1", "plainValue(3, 0) = 4");
    }

    private static void valueIf() {
        Script.run("its own place", THREE, "valueIf(2, 3, 4, 0) = -3", "valueIf(2, 3, 12, 0) = -107", "value(12, 0) = -107");
        Script.run("the ends", THREE, "valueIf(2, -9, 3, 0) = 41", "valueIf(2, -9, 3, 1) = 5", "valueIf(2, 9, 9, 0) = 1",
            "valueIf(2, -10, 3, 0) = IllegalArgumentException", "valueIf(2, 10, 3, 0) = IllegalArgumentException", "valueIf(2, 9, 12, 0) = -8",
            "valueIf(2, 9, 13, 1) = IllegalArgumentException", "valueIf(2, 9, -13, 1) = IllegalArgumentException");
        // "another point has the X to (this is checked before the value is looked for)"
        Script.run("taken and nothing there", ALL_ZERO, "valueIf(0, 2, 5, 0) = IllegalStateException",
            "valueIf(1, 0, 5, 1) = IllegalStateException", "valueIf(0, 1, 5, 0) = NoSuchElementException",
            "valueIf(0, 0, 5, 0) = NoSuchElementException", "valueIf(0, 2, 13, 0) = IllegalArgumentException",
            "valueIf(0, 2, 5, 2) = IllegalArgumentException", "valueIf(2, 2, 5, 0) = IndexOutOfBoundsException");
        // A pole, a gap and a value would be.
        Script.run("what would be", "load point 0 1;point 2 3;told; = 2", "valueIf(0, 0, 1, 0) = NoSuchElementException",
            "valueIf(1, 4, 2, 0) = NoSuchElementException", "valueIf(1, 4, 3, 0) = 4", "setValue(0, 3) = 1", "valueIf(1, 4, 2, 0) = 3",
            "kindAt(1) = 1", "points() = 2", "point(1, 0) = 2", "undo() = 0", "undo() = -1");
        Script.run("with its weight", "load point 0 1 weight 2;point 1 4 weight 0;point 3 2 weight -1;told; = 3", "valueIf(0, -7, 2, 0) = 20",
            "valueIf(0, -7, 2, 1) = 11", "valueIf(1, -7, 2, 0) = 3", "valueIf(1, -7, 2, 1) = 2", "valueIf(2, -7, 2, 0) = 7",
            "valueIf(2, -7, 2, 1) = 8");
    }

    private static void valueWithout() {
        Script.run("the only point", "load point 0 1; = 1", "valueWithout(0, 0, 0) = NoSuchElementException",
            "valueWithout(0, 12, 1) = NoSuchElementException", "valueWithout(1, 0, 0) = IndexOutOfBoundsException", "value(0, 0) = 1",
            "points() = 1");
        Script.run("no point", "valueWithout(0, 0, 0) = IndexOutOfBoundsException", "valueWithout(0, 13, 2) = IndexOutOfBoundsException");
        // The degree is cut to the points that are left: 4 of five is 3 of four.
        Script.run("the degree is cut", "load point 0 1;point 1 4;point 3 2;point 4 -5;point -2 7;blend 4; = 5", "valueWithout(0, 2, 0) = 13",
            "valueWithout(0, 2, 1) = 3", "valueWithout(1, 2, 0) = 11", "valueWithout(2, 2, 0) = 19", "valueWithout(3, 2, 0) = 17",
            "valueWithout(4, 2, 0) = 14", "valueWithout(4, 2, 1) = 3", "setMode(1, 1) = 1", "valueWithout(0, 2, 0) = 33",
            "valueWithout(0, 2, 1) = 7", "valueWithout(1, 2, 0) = 113", "valueWithout(1, 2, 1) = 27", "valueWithout(4, 2, 0) = 11",
            "valueWithout(4, 2, 1) = 2", "points() = 5", "undo() = 0");
        // Without the third the denominator is 2x - 2: a gap at 1, or a pole.
        Script.run("a gap or a pole would be", "load point 0 5;point 2 5;point 7 1;told; = 3", "valueWithout(2, 1, 0) = 5",
            "valueWithout(2, 1, 1) = 1", "setValue(0, 6) = 5", "valueWithout(2, 1, 0) = NoSuchElementException",
            "valueWithout(2, 1, 2) = IllegalArgumentException", "kindAt(1) = 0");
        Script.run("only weights of 0 are left", "load point 0 1 weight 0;point 2 3 weight 4;told; = 2", "value(1, 0) = 3",
            "valueWithout(1, 1, 0) = NoSuchElementException", "valueWithout(0, 1, 0) = 3", "valueWithout(0, 0, 0) = 3");
    }

    private static void bestPlace() {
        // "the smallest one of several": -1 and 4 are as good.
        Script.run("several", THREE, "bestPlace(1, -12) = -1", "bestPlace(1, 12) = -1", "bestPlace(1, 0) = -9", "valueIf(1, -1, 12, 0) = 55",
            "valueIf(1, 4, 12, 0) = 55", "point(1, 0) = 1", "undo() = -1");
        // "all X from -9 to 9 that no other point has (its own one, too)"
        Script.run("all alike", "load point -9 4;point -8 4;point 9 4; = 3", "bestPlace(0, 0) = -9", "bestPlace(1, 0) = -8",
            "bestPlace(2, 0) = -7", "shift(0) = 3", "removePoint(0) = 2", "bestPlace(1, 0) = -9");
        Script.run("its own", "load point 0 0;point 1 5; = 2", "bestPlace(1, 12) = 1", "move(1, -9) = 1", "bestPlace(1, 12) = 1",
            "bestPlace(1, -12) = -1");
        // With the place 8 there is a pole at 5: it does not count, though beside it the value is greatest.
        Script.run("poles do not count", "load point 0 1;point 2 3;told; = 2", "bestPlace(0, 5) = 9", "bestPlace(0, 1) = -1",
            "bestPlace(1, 1) = 1", "bestPlace(1, 5) = 9", "valueIf(0, 8, 5, 0) = NoSuchElementException", "valueIf(0, 9, 5, 0) = 9");
        Script.run("with the weights", "load point 0 1 weight 2;point 1 4 weight 0;point 3 2 weight -1;told; = 3", "bestPlace(0, 5) = 0",
            "bestPlace(1, 5) = -9", "bestPlace(2, 5) = 3", "bestPlace(0, -12) = -9", "bestPlace(0, 12) = -7", "bestPlace(2, 12) = 7");
        // All places give 5, the place -9 as a gap.
        Script.run("gaps count", "load point 0 5;point 4 7 weight 0;told; = 2", "bestPlace(1, -9) = -9", "valueIf(1, -9, -9, 0) = 5",
            "valueIf(1, -9, -9, 1) = 1", "bestPlace(1, 3) = -9", "bestPlace(0, 3) = -9");
        Script.run("none", ALL_ZERO, "bestPlace(0, 5) = NoSuchElementException", "bestPlace(1, -12) = NoSuchElementException",
            "bestPlace(1, 13) = IllegalArgumentException", "bestPlace(2, 13) = IndexOutOfBoundsException");
        Script.run("no point", "bestPlace(0, 0) = IndexOutOfBoundsException", "bestPlace(-1, 13) = IndexOutOfBoundsException");
    }

    private static void bestPlaceEnds() {
        // The further away the point is, the better: 10 and more would be better still, but -9 and 9 are the ends.
        Script.run("at most 9", "load point -9 0;point 0 -5; = 2", "bestPlace(1, 12) = 9", "valueIf(1, 9, 12, 0) = -35",
            "valueIf(1, 9, 12, 1) = 6", "mirror() = 2", "bestPlace(1, -12) = -9");
        Script.run("at least -9", "load point 9 0;point 0 -5; = 2", "bestPlace(1, -12) = -9", "mirror() = 2", "bestPlace(1, 12) = 9");
        Script.run("all less than 0", "load point 3 -5; = 1", "bestPlace(0, 0) = -9", "addPoint(-9, -5, 1) = 1", "bestPlace(0, 12) = -8",
            "bestPlace(1, 12) = -9");
    }
}
