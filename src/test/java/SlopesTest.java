/** Promises 25 to 32: rows, slopes, divided differences, and what would be. */
public final class SlopesTest {
    public static void main(String[] args) {
        rows();
        slopes();
        divided();
        plainValue();
        valueIf();
        valueWithout();
        bestPlace();
        Script.end();
    }

    private static void rows() {
        // Weights 2, -3, 1: (-3/2) / (0 - 1) and (1/2) / (0 - 3).
        Script.run("rows", "load point 0 1;point 1 3;point 3 1; = 3", "row(0, 1, 0) = 3", "row(0, 1, 1) = 2", "row(0, 2, 0) = -1",
            "row(0, 2, 1) = 6", "row(0, 0, 0) = -4", "row(0, 0, 1) = 3", "row(2, 0, 0) = 2", "row(2, 0, 1) = 3", "row(2, 1, 0) = -3",
            "row(2, 1, 1) = 2", "row(2, 2, 0) = 5", "row(2, 2, 1) = 6", "row(3, 0, 0) = IndexOutOfBoundsException",
            "row(0, 3, 0) = IndexOutOfBoundsException", "row(-1, 0, 9) = IndexOutOfBoundsException",
            "row(0, -1, 9) = IndexOutOfBoundsException", "row(0, 1, 2) = IllegalArgumentException", "row(0, 1, -1) = IllegalArgumentException");
        Script.run("one point", "load point 4 7; = 1", "row(0, 0, 0) = 0", "row(0, 0, 1) = 1", "slope(0, 0) = 0", "slope(0, 1) = 1",
            "steepest() = 0");
        Script.run("weights of 0", "load point 0 1 weight 0;point 1 3 weight 2;point 3 1 weight 4;told; = 3",
            "row(0, 1, 0) = IllegalStateException", "row(0, 1, 2) = IllegalArgumentException", "row(1, 0, 0) = 0", "row(1, 0, 1) = 1",
            "row(1, 2, 0) = -1", "row(1, 2, 1) = 1", "row(1, 1, 0) = 1", "slope(0, 0) = IllegalStateException",
            "slope(0, 2) = IllegalArgumentException", "slope(3, 2) = IndexOutOfBoundsException");
    }

    private static void slopes() {
        // 1 + 3x - x^2 has the slopes 3, 1 and -3.
        Script.run("slopes", "load point 0 1;point 1 3;point 3 1; = 3", "slope(0, 0) = 3", "slope(0, 1) = 1", "slope(1, 0) = 1",
            "slope(2, 0) = -3", "steepest() = 0", "slope(-1, 0) = IndexOutOfBoundsException", "slope(0, -1) = IllegalArgumentException",
            "mirror() = 3", "steepest() = 2", "slope(2, 0) = 3", "setValue(0, 2) = 1", "slope(1, 0) = -1", "slope(1, 1) = 3");
        Script.run("fractions", "load point 0 0;point 3 -1; = 2", "slope(0, 0) = -1", "slope(0, 1) = 3", "slope(1, 0) = -1", "steepest() = 0");
        Script.run("the smallest number of several", "load point 5 5;point -2 -2;point 0 0; = 3", "slope(2, 0) = 1", "steepest() = 0",
            "setMode(2, 0) = 0", "setWeight(0, 0) = 1", "steepest() = 1", "setWeight(1, 0) = 1", "steepest() = 2", "setWeight(2, 0) = 1",
            "steepest() = NoSuchElementException");
        Script.run("no points", "steepest() = NoSuchElementException", "slope(0, 0) = IndexOutOfBoundsException",
            "row(0, 0, 0) = IndexOutOfBoundsException");
    }

    private static void divided() {
        // [0] 1, [1] 3, [2] -2; [0 1] = 2 / (4 - 1), [1 2] = -5 / (-1 - 4) = 1, [0 2] = (1 - 2/3) / (-1 - 1).
        Script.run("divided", "load point 1 1;point 4 3;point -1 -2; = 3", "divided(0, 0, 0) = 1", "divided(2, 2, 0) = -2",
            "divided(2, 2, 1) = 1", "divided(0, 1, 0) = 2", "divided(0, 1, 1) = 3", "divided(1, 2, 0) = 1", "divided(1, 2, 1) = 1",
            "divided(0, 2, 0) = -1", "divided(0, 2, 1) = 6", "divided(3, 0, 0) = IndexOutOfBoundsException",
            "divided(0, 3, 0) = IndexOutOfBoundsException", "divided(-1, 0, 0) = IndexOutOfBoundsException",
            "divided(0, -1, 0) = IndexOutOfBoundsException", "divided(1, 0, 0) = IllegalArgumentException",
            "divided(0, 1, 2) = IllegalArgumentException", "divided(0, 1, -1) = IllegalArgumentException", "setMode(2, 0) = 0",
            "setWeight(0, 0) = 1", "divided(0, 2, 1) = 6");
        // x^4 has the divided difference 1 over any five points.
        Script.run("five", "load point 2 16;point -1 1;point 0 0;point 1 1;point -2 16; = 5", "divided(0, 4, 0) = 1", "divided(0, 4, 1) = 1",
            "divided(0, 3, 0) = 2", "divided(1, 4, 0) = -2");
    }

    private static void plainValue() {
        // 1 + 3x - x^2, whatever the mode is.
        Script.run("plain values", "load point 0 1 weight 0;point 1 3 weight 0;point 3 1 weight 0;told; = 3", "plainValue(4, 0) = -3",
            "plainValue(4, 1) = 1", "plainValue(-12, 0) = -179", "plainValue(12, 0) = -107", "plainValue(13, 0) = IllegalArgumentException",
            "plainValue(-13, 0) = IllegalArgumentException", "plainValue(0, 2) = IllegalArgumentException",
            "plainValue(0, -1) = IllegalArgumentException", "kindAt(4) = 3", "mode() = 2", "setMode(1, 0) = 2", "plainValue(4, 0) = -3");
        Script.run("no points", "plainValue(0, 0) = NoSuchElementException", "plainValue(13, 0) = IllegalArgumentException",
            "plainValue(0, 5) = IllegalArgumentException");
        Script.run("a fraction", "load point 0 0;point 3 -1; = 2", "plainValue(1, 0) = -1", "plainValue(1, 1) = 3");
    }

    private static void valueIf() {
        String text = "load point 0 1;point 1 3;point 3 1; = 3";
        Script.run("moved", text, "valueIf(2, 2, 3, 0) = -5", "valueIf(2, 2, 3, 1) = 1", "valueIf(2, 3, 4, 0) = -3", "point(2, 0) = 3",
            "value(4, 0) = -3", "undo() = -1", "valueIf(2, 1, 3, 0) = IllegalStateException", "valueIf(2, 10, 3, 0) = IllegalArgumentException",
            "valueIf(2, -10, 3, 0) = IllegalArgumentException", "valueIf(2, 1, 13, 0) = IllegalArgumentException",
            "valueIf(2, 1, -13, 0) = IllegalArgumentException", "valueIf(2, 1, 3, 2) = IllegalArgumentException",
            "valueIf(2, 1, 3, -1) = IllegalArgumentException", "valueIf(3, 10, 13, 2) = IndexOutOfBoundsException",
            "valueIf(-1, 0, 0, 0) = IndexOutOfBoundsException", "valueIf(0, 9, 9, 0) = 1", "valueIf(0, -9, -9, 0) = 1");
        // With the points at 0 and 4 the denominator is 2x - 4.
        Script.run("a pole would be", "load point 0 1;point 2 3;told; = 2", "valueIf(1, 4, 2, 0) = NoSuchElementException",
            "valueIf(1, 4, 1, 0) = 0", "valueIf(1, 0, 2, 0) = IllegalStateException", "kindAt(1) = 2", "value(3, 0) = 5");
        Script.run("nothing would be", "load point 0 1 weight 0;point 2 3 weight 0;told; = 2", "valueIf(0, 1, 5, 0) = NoSuchElementException",
            "valueIf(0, 2, 5, 0) = IllegalStateException");
        Script.run("the mode stays", "load point 0 1;point 1 3;point 3 1;blend 0; = 3", "valueIf(0, 2, 3, 0) = 1", "valueIf(0, 2, 0, 0) = 17",
            "valueIf(0, 2, 0, 1) = 5");
    }

    private static void valueWithout() {
        String text = "load point 0 1;point 1 3;point 3 1; = 3";
        Script.run("without", text, "valueWithout(2, 3, 0) = 7", "valueWithout(2, 3, 1) = 1", "valueWithout(0, 0, 0) = 4",
            "valueWithout(1, 7, 0) = 1", "points() = 3", "value(4, 0) = -3", "valueWithout(3, 13, 0) = IndexOutOfBoundsException",
            "valueWithout(-1, 0, 0) = IndexOutOfBoundsException", "valueWithout(0, 13, 0) = IllegalArgumentException",
            "valueWithout(0, -13, 0) = IllegalArgumentException", "valueWithout(0, 0, 2) = IllegalArgumentException",
            "valueWithout(0, 0, -1) = IllegalArgumentException");
        Script.run("the last point", "load point 0 1; = 1", "valueWithout(0, 0, 0) = NoSuchElementException",
            "valueWithout(0, 0, 3) = IllegalArgumentException", "points() = 1");
        Script.run("a pole would be", "load point 0 1;point 2 3;point 5 0 weight 3;told; = 3", "valueWithout(2, 1, 0) = NoSuchElementException",
            "valueWithout(2, 3, 0) = 5", "valueWithout(2, 3, 1) = 2");
    }

    private static void bestPlace() {
        Script.run("all the same", "load point 4 7; = 1", "bestPlace(0, 3) = -9", "bestPlace(0, -12) = -9", "point(0, 0) = 4",
            "bestPlace(1, 0) = IndexOutOfBoundsException", "bestPlace(-1, 13) = IndexOutOfBoundsException",
            "bestPlace(0, 13) = IllegalArgumentException", "bestPlace(0, -13) = IllegalArgumentException");
        // A line from (0, 0) through (to, 5) is steepest at 12 for the smallest to above 0.
        Script.run("a line", "load point 0 0;point 4 5; = 2", "bestPlace(1, 12) = 1", "bestPlace(1, -12) = -1", "bestPlace(1, 0) = -9",
            "undo() = -1", "value(4, 0) = 5");
        Script.run("the ends count", "load point 8 0;point 0 5; = 2", "bestPlace(1, 12) = 9", "mirror() = 2", "bestPlace(1, -12) = -9");
        Script.run("its own place counts", "load point 0 0;point 1 5; = 2", "bestPlace(1, 12) = 1", "load point 0 0;point 1 5;point -1 -5; = 3",
            "bestPlace(1, 1) = -2", "bestPlace(0, 0) = 2");
        Script.run("there is none", "load point 0 1 weight 0;point 2 3 weight 0;told; = 2", "bestPlace(0, 5) = NoSuchElementException",
            "bestPlace(0, 13) = IllegalArgumentException");
    }
}
