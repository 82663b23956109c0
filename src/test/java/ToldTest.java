/** Promises 6 to 13: what was told, and the weights. */
public final class ToldTest {
    public static void main(String[] args) {
        told();
        plainWeights();
        blendedWeights();
        toldWeights();
        alternating();
        Script.end();
    }

    private static void told() {
        Script.run("points", "load point 5 -20 weight -9; point -9 20; point 0 0 weight 0; = 3", "points() = 3", "mode() = 0",
            "degree() = 0", "point(0, 0) = 5", "point(0, 1) = -20", "point(0, 2) = -9", "point(0, 3) = 2", "point(1, 0) = -9",
            "point(1, 1) = 20", "point(1, 2) = 1", "point(1, 3) = 0", "point(2, 2) = 0", "point(2, 3) = 1",
            "point(3, 0) = IndexOutOfBoundsException", "point(-1, 0) = IndexOutOfBoundsException",
            "point(3, 4) = IndexOutOfBoundsException", "point(0, 4) = IllegalArgumentException", "point(0, -1) = IllegalArgumentException",
            "pointAt(5) = 0", "pointAt(-9) = 1", "pointAt(0) = 2", "pointAt(1) = NoSuchElementException",
            "pointAt(12) = NoSuchElementException", "pointAt(-12) = NoSuchElementException", "pointAt(13) = IllegalArgumentException",
            "pointAt(-13) = IllegalArgumentException", "removePoint(2) = 2", "pointAt(0) = NoSuchElementException");
        Script.run("degrees", "setMode(1, 3) = 0", "mode() = 1", "degree() = 3", "setMode(2, 1) = 1", "degree() = 3", "mode() = 2",
            "undo() = 1", "undo() = 0", "degree() = 0", "mode() = 0");
    }

    private static void plainWeights() {
        Script.run("plain", "load point 0 0;point 1 0;point 3 0; = 3", "weight(0) = 2", "weight(1) = -3", "weight(2) = 1",
            "weightSum() = 0", "isAlternating() = true", "weight(3) = IndexOutOfBoundsException", "weight(-1) = IndexOutOfBoundsException");
        Script.run("plain, not sorted", "load point 3 0;point 0 0;point 1 0; = 3", "weight(0) = 1", "weight(1) = 2", "weight(2) = -3");
        Script.run("one point", "load point -7 9; = 1", "weight(0) = 1", "weightSum() = 1", "setMode(1, 4) = 0", "weight(0) = 1");
        Script.run("two points", "load point 9 0;point -9 0; = 2", "weight(0) = 1", "weight(1) = -1");
        Script.run("five points", "load point -2 0;point -1 0;point 0 0;point 1 0;point 2 0; = 5", "weight(0) = 1", "weight(1) = -4",
            "weight(2) = 6", "weight(3) = -4", "weight(4) = 1");
    }

    private static void blendedWeights() {
        String five = "load point 2 0;point -1 0;point 0 0;point 1 0;point -2 0; = 5";
        Script.run("blended 0", five, "setMode(1, 0) = 0", "weight(4) = 1", "weight(1) = -1", "weight(2) = 1", "weight(3) = -1",
            "weight(0) = 1", "weightSum() = 1");
        Script.run("blended 1", five, "setMode(1, 1) = 0", "weight(4) = -1", "weight(1) = 2", "weight(2) = -2", "weight(3) = 2",
            "weight(0) = -1", "weightSum() = 0", "isAlternating() = true");
        Script.run("blended 2", five, "setMode(1, 2) = 0", "weight(4) = 1", "weight(1) = -3", "weight(2) = 4", "weight(3) = -3",
            "weight(0) = 1");
        Script.run("blended 3", five, "setMode(1, 3) = 0", "weight(4) = -1", "weight(1) = 4", "weight(2) = -6", "weight(3) = 4",
            "weight(0) = -1");
        Script.run("blended 4 is plain", five, "setMode(1, 4) = 0", "weight(4) = 1", "weight(1) = -4", "weight(2) = 6");
        // 1/(0-1), 1/(1-0) - 1/(1-3), -1/(3-1), all times 2.
        Script.run("blended, at other distances", "load point 0 0;point 1 0;point 3 0;blend 1; = 3", "weight(0) = -2", "weight(1) = 3",
            "weight(2) = -1");
        Script.run("the degree is cut", "load point 0 0;point 1 0;point 3 0;blend 4; = 3", "weight(0) = 2", "weight(1) = -3",
            "weight(2) = 1", "degree() = 4");
    }

    private static void toldWeights() {
        Script.run("told", "load point 0 0 weight 6;point 1 0 weight -9;point 3 0 weight 0;told; = 3", "weight(0) = 2",
            "weight(1) = -3", "weight(2) = 0", "weightSum() = -1", "isAlternating() = false");
        Script.run("told, all 0", "load point 0 0 weight 0;point 1 0 weight 0;told; = 2", "weight(0) = 0", "weight(1) = 0",
            "weightSum() = 0", "isAlternating() = false");
        Script.run("told, one less than 0", "load point 0 0 weight -8;told; = 1", "weight(0) = -1", "weightSum() = -1",
            "isAlternating() = true", "setWeight(0, 0) = -8", "isAlternating() = false");
    }

    private static void alternating() {
        Script.run("alternating by place", "load point 1 0 weight -1;point 0 0 weight 1;point 2 0 weight 2;told; = 3",
            "isAlternating() = true", "mirror() = 3", "isAlternating() = true", "move(0, 5) = -1", "isAlternating() = false");
    }
}
