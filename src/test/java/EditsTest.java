/** Promises 33 to 41: edits and undo. */
public final class EditsTest {
    private static final String THREE = "load point 0 1 weight 2;point 1 3 weight -3;point 3 1 weight 4; = 3";

    public static void main(String[] args) {
        move();
        numbers();
        addPoint();
        removePoint();
        setMode();
        shiftAndMirror();
        undo();
        refusals();
        Script.end();
    }

    private static void move() {
        Script.run("move", THREE, "move(0, 9) = 0", "point(0, 0) = 9", "point(0, 1) = 1", "point(0, 2) = 2", "point(0, 3) = 2",
            "weight(0) = 1", "weight(1) = 3", "weight(2) = -4", "move(0, 9) = 9", "move(0, 1) = IllegalStateException",
            "move(0, -9) = 9", "move(0, 10) = IllegalArgumentException", "move(0, -10) = IllegalArgumentException",
            "move(3, 10) = IndexOutOfBoundsException", "move(-1, 0) = IndexOutOfBoundsException", "undo() = 2", "point(0, 0) = 9",
            "undo() = 1", "point(0, 0) = 9", "undo() = 0", "point(0, 0) = 0", "undo() = -1");
    }

    private static void numbers() {
        Script.run("setValue", THREE, "setValue(1, 20) = 3", "point(1, 1) = 20", "value(1, 0) = 20", "setValue(1, -20) = 20",
            "setValue(1, 21) = IllegalArgumentException", "setValue(1, -21) = IllegalArgumentException",
            "setValue(3, 21) = IndexOutOfBoundsException", "setValue(-1, 0) = IndexOutOfBoundsException", "value(1, 0) = -20",
            "undo() = 1", "value(1, 0) = 20", "undo() = 0", "value(1, 0) = 3");
        Script.run("setWeight", THREE, "setMode(2, 0) = 0", "setWeight(1, 9) = -3", "point(1, 2) = 9", "weight(1) = 9",
            "setWeight(1, -9) = 9", "weight(1) = -9", "setWeight(1, 10) = IllegalArgumentException",
            "setWeight(1, -10) = IllegalArgumentException", "setWeight(3, 10) = IndexOutOfBoundsException",
            "setWeight(-1, 0) = IndexOutOfBoundsException", "undo() = 2", "weight(1) = 9", "undo() = 1", "weight(1) = -3");
    }

    private static void addPoint() {
        Script.run("addPoint", "addPoint(9, 20, 9) = 0", "addPoint(-9, -20, -9) = 1", "point(1, 0) = -9", "point(1, 1) = -20",
            "point(1, 2) = -9", "value(9, 0) = 20", "value(-9, 0) = -20", "addPoint(10, 0, 0) = IllegalArgumentException",
            "addPoint(-10, 0, 0) = IllegalArgumentException", "addPoint(0, 21, 0) = IllegalArgumentException",
            "addPoint(0, -21, 0) = IllegalArgumentException", "addPoint(0, 0, 10) = IllegalArgumentException",
            "addPoint(0, 0, -10) = IllegalArgumentException", "addPoint(9, 0, 0) = IllegalStateException",
            "addPoint(9, 21, 0) = IllegalArgumentException", "addPoint(0, 0, 0) = 2", "addPoint(1, 0, 0) = 3", "addPoint(2, 0, 0) = 4",
            "addPoint(3, 0, 0) = IllegalStateException", "addPoint(2, 0, 0) = IllegalStateException",
            "addPoint(3, 21, 0) = IllegalArgumentException", "points() = 5", "undo() = 4", "points() = 4");
    }

    private static void removePoint() {
        Script.run("removePoint", THREE, "removePoint(0) = 2", "point(0, 0) = 1", "point(0, 1) = 3", "point(0, 2) = -3", "point(1, 0) = 3",
            "point(2, 0) = IndexOutOfBoundsException", "weight(0) = -1", "weight(1) = 1", "removePoint(2) = IndexOutOfBoundsException",
            "removePoint(-1) = IndexOutOfBoundsException", "removePoint(1) = 1", "point(0, 0) = 1", "removePoint(0) = 0",
            "removePoint(0) = IndexOutOfBoundsException", "kindAt(1) = 3", "undo() = 2", "undo() = 1", "undo() = 0", "points() = 3",
            "point(0, 2) = 2", "point(2, 2) = 4", "value(4, 0) = -3");
    }

    private static void setMode() {
        Script.run("setMode", THREE, "setMode(2, 4) = 0", "mode() = 2", "degree() = 0", "weight(0) = 2", "setMode(1, 0) = 2", "degree() = 0",
            "weight(0) = 1", "setMode(1, 4) = 1", "degree() = 4", "weight(0) = 2", "setMode(0, 1) = 1", "degree() = 4",
            "setMode(3, 0) = IllegalArgumentException", "setMode(-1, 0) = IllegalArgumentException", "setMode(0, 5) = IllegalArgumentException",
            "setMode(2, -1) = IllegalArgumentException", "setMode(1, 5) = IllegalArgumentException", "mode() = 0", "undo() = 3", "undo() = 2",
            "degree() = 0", "mode() = 1", "undo() = 1", "mode() = 2", "undo() = 0", "mode() = 0");
    }

    private static void shiftAndMirror() {
        Script.run("shift", THREE, "shift(6) = 3", "point(0, 0) = 6", "point(2, 0) = 9", "value(10, 0) = -3", "shift(1) = IllegalStateException",
            "point(0, 0) = 6", "shift(-15) = 3", "point(0, 0) = -9", "point(1, 0) = -8", "shift(-1) = IllegalStateException",
            "shift(19) = IllegalArgumentException", "shift(-19) = IllegalArgumentException", "shift(18) = IllegalStateException",
            "shift(0) = 3", "undo() = 2", "undo() = 1", "undo() = 0", "point(2, 0) = 3");
        Script.run("shift as far as can be", "shift(18) = 0", "shift(-18) = 0", "addPoint(-9, 0, 1) = 0", "shift(18) = 1", "point(0, 0) = 9",
            "shift(-18) = 1", "point(0, 0) = -9", "undo() = 4");
        Script.run("mirror", THREE, "mirror() = 3", "point(0, 0) = 0", "point(1, 0) = -1", "point(2, 0) = -3", "point(2, 3) = 0",
            "value(-4, 0) = -3", "undo() = 0", "point(2, 0) = 3", "removePoint(0) = 2", "removePoint(0) = 1", "removePoint(0) = 0",
            "mirror() = 0", "undo() = 3");
    }

    private static void undo() {
        Script.run("nothing to undo", "undo() = -1", "undo() = -1", "mirror() = 0", "undo() = 0", "undo() = -1");
        WeightedNodes nodes = Script.run("twelve edits", "addPoint(0, 0, 1) = 0");
        for (int y = 1; y <= 11; y++) {
            Script.due("setValue " + y, nodes.setValue(0, y), y - 1);
        }
        for (int left = 9; left >= 0; left--) {
            Script.due("undo to " + left, nodes.undo(), left);
            Script.due("the Y with " + left, nodes.point(0, 1), left + 1);
        }
        Script.go(nodes, "ten are remembered", "undo() = -1", "points() = 1", "point(0, 1) = 1", "value(5, 0) = 1");
        Script.run("edits after undo", "addPoint(0, 0, 1) = 0", "addPoint(1, 0, 1) = 1", "undo() = 1", "addPoint(2, 5, 1) = 1", "undo() = 1",
            "points() = 1", "undo() = 0", "points() = 0", "undo() = -1");
        Script.run("load forgets", THREE, "mirror() = 3", "load(0) = 0", "undo() = -1", "addPoint(1, 1, 1) = 0", "load x = -3", "undo() = 0",
            "mirror() = 0", "load(1) = IllegalArgumentException", "undo() = 0");
    }

    private static void refusals() {
        Script.run("what throws is not remembered", THREE, "move(0, 1) = IllegalStateException", "move(0, 10) = IllegalArgumentException",
            "setValue(0, 21) = IllegalArgumentException", "setWeight(0, 10) = IllegalArgumentException",
            "addPoint(0, 0, 0) = IllegalStateException", "removePoint(3) = IndexOutOfBoundsException",
            "setMode(0, 5) = IllegalArgumentException", "shift(7) = IllegalStateException", "valueIf(0, 5, 4, 0) = 3",
            "bestPlace(0, 5) = 2", "undo() = -1");
    }
}
