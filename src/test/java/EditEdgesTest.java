/** The section ERRORS AND EDITS and promises 33 to 41, a sentence at a time, at their edges. */
public final class EditEdgesTest {
    private static final String THREE = "load point 0 1 weight 2;point 1 3 weight -3;point 3 1 weight 4;blend 2; = 3";
    // Each of them changes THREE, then each of them changes nothing.
    private static final String[] CHANGING = {"move(0, 9) = 0", "setValue(1, 20) = 3", "setWeight(2, -9) = 4", "addPoint(-9, 0, 0) = 3",
        "removePoint(1) = 2", "setMode(2, 0) = 1", "setMode(1, 0) = 1", "shift(-9) = 3", "mirror() = 3"};
    private static final String[] IDLE = {"move(0, 0) = 0", "setValue(1, 3) = 3", "setWeight(2, 4) = 4", "setMode(1, 2) = 1", "shift(0) = 3"};
    // What throws on THREE, with each error of each edit.
    private static final String[] THROWING = {"move(3, 2) = IndexOutOfBoundsException", "move(-1, 10) = IndexOutOfBoundsException",
        "move(0, 10) = IllegalArgumentException", "move(0, -10) = IllegalArgumentException", "move(0, 1) = IllegalStateException",
        "move(0, 3) = IllegalStateException", "setValue(3, 21) = IndexOutOfBoundsException", "setValue(0, 21) = IllegalArgumentException",
        "setValue(0, -21) = IllegalArgumentException", "setWeight(3, 10) = IndexOutOfBoundsException",
        "setWeight(0, 10) = IllegalArgumentException", "setWeight(0, -10) = IllegalArgumentException",
        "addPoint(10, 0, 0) = IllegalArgumentException", "addPoint(-10, 0, 0) = IllegalArgumentException",
        "addPoint(1, 21, 0) = IllegalArgumentException", "addPoint(1, -21, 0) = IllegalArgumentException",
        "addPoint(1, 0, 10) = IllegalArgumentException", "addPoint(1, 0, -10) = IllegalArgumentException",
        "addPoint(1, 0, 0) = IllegalStateException", "removePoint(3) = IndexOutOfBoundsException",
        "removePoint(-1) = IndexOutOfBoundsException", "setMode(3, 0) = IllegalArgumentException", "setMode(-1, 0) = IllegalArgumentException",
        "setMode(1, 5) = IllegalArgumentException", "setMode(0, -1) = IllegalArgumentException", "shift(19) = IllegalArgumentException",
        "shift(-19) = IllegalArgumentException", "shift(7) = IllegalStateException", "shift(-10) = IllegalStateException",
        "load(1) = IllegalArgumentException", "valueIf(0, 1, 0, 0) = IllegalStateException"};

    public static void main(String[] args) {
        everyEditIsUndone();
        throwingIsNoEdit();
        atMostTen();
        loads();
        move();
        numbers();
        addPoint();
        removePoint();
        setMode();
        shift();
        mirror();
        Script.end();
    }

    private static void isThree(WeightedNodes nodes, String title) {
        Script.go(nodes, title, "points() = 3", "mode() = 1", "degree() = 2", "point(0, 0) = 0", "point(0, 1) = 1", "point(0, 2) = 2",
            "point(1, 0) = 1", "point(1, 1) = 3", "point(1, 2) = -3", "point(2, 0) = 3", "point(2, 1) = 1", "point(2, 2) = 4",
            "point(2, 3) = 2", "weight(0) = 2", "weight(1) = -3", "weight(2) = 1", "value(4, 0) = -3", "coefficient(false, 1) = 18");
    }

    private static void everyEditIsUndone() {
        // "Every successful edit can be undone, also if it changes nothing."
        for (String edit : CHANGING) {
            WeightedNodes nodes = Script.run(edit, THREE, edit, "undo() = 0");
            isThree(nodes, edit + " undone");
            Script.go(nodes, edit, "undo() = -1");
            isThree(nodes, edit + " undone once only");
        }
        for (String edit : IDLE) {
            WeightedNodes nodes = Script.run(edit, THREE, edit);
            isThree(nodes, edit + " changes nothing");
            Script.go(nodes, edit, edit, "undo() = 1", "undo() = 0", "undo() = -1");
            isThree(nodes, edit + " undone");
        }
        Script.run("without points", "mirror() = 0", "shift(18) = 0", "shift(-18) = 0", "setMode(0, 0) = 0", "undo() = 3", "undo() = 2",
            "undo() = 1", "undo() = 0", "undo() = -1", "undo() = -1", "points() = 0");
        Script.run("the latest that is not undone yet", THREE, "setValue(0, 5) = 1", "setValue(0, 6) = 5", "undo() = 1", "point(0, 1) = 5",
            "setValue(0, 7) = 5", "undo() = 1", "point(0, 1) = 5", "undo() = 0", "point(0, 1) = 1", "undo() = -1", "point(0, 1) = 1");
    }

    private static void throwingIsNoEdit() {
        // "A call that throws an exception changes nothing."
        for (String call : THROWING) {
            WeightedNodes nodes = Script.run(call, THREE, "setValue(0, 9) = 1", call, "point(0, 1) = 9", "undo() = 0");
            isThree(nodes, "after " + call);
            Script.go(nodes, call, call, "undo() = -1");
            isThree(nodes, "after " + call + " once more");
        }
        WeightedNodes nodes = Script.run("all of them", THREE);
        for (String call : THROWING) {
            Script.go(nodes, "one of many", call);
        }
        isThree(nodes, "after all of them");
        Script.go(nodes, "all of them", "undo() = -1", "errorKind() = 0", "written(0) = IndexOutOfBoundsException");
    }

    private static void atMostTen() {
        // "At most 10 edits are remembered": 9, 10, 11 and many more.
        for (int edits : new int[] {1, 9, 10, 11, 12, 20, 21, 40}) {
            WeightedNodes nodes = Script.run(edits + " edits", "load point 0 -20; = 1");
            for (int k = 1; k <= edits; k++) {
                Script.due("edit " + k, nodes.setValue(0, k - 20), k - 21);
            }
            int kept = Math.min(edits, 10);
            for (int k = 1; k <= kept; k++) {
                Script.due("undo " + k + " of " + edits, nodes.undo(), kept - k);
                Script.due("the Y after undo " + k + " of " + edits, nodes.point(0, 1), edits - 20 - k);
            }
            Script.go(nodes, edits + " edits", "undo() = -1", "point(0, 1) = " + (edits - 20 - kept), "value(12, 0) = " + (edits - 20 - kept),
                "setValue(0, 3) = " + (edits - 20 - kept), "undo() = 0");
        }
        for (String edit : new String[] {"mirror() = 0", "shift(0) = 0", "setMode(1, 3) = 1"}) {
            WeightedNodes nodes = Script.run(edit, "setMode(1, 3) = 0");
            for (int k = 1; k <= 11; k++) {
                Script.go(nodes, edit, edit);
            }
            Script.go(nodes, edit, "undo() = 9", "undo() = 8", edit, "undo() = 8", "undo() = 7", "undo() = 6", "undo() = 5", "undo() = 4",
                "undo() = 3", "undo() = 2", "undo() = 1", "undo() = 0", "mode() = 1", "degree() = 3", "undo() = -1", "mode() = 1");
        }
    }

    private static void loads() {
        // "A successful load() forgets all edits", and only that.
        Script.run("an empty text", THREE, "mirror() = 3", "load(0) = 0", "undo() = -1", "points() = 0");
        Script.run("the same text", THREE, "mirror() = 3", THREE, "undo() = -1", "point(2, 0) = 3", "mirror() = 3", "undo() = 0");
        Script.run("ten edits", THREE, "mirror() = 3", "mirror() = 3", "mirror() = 3", "mirror() = 3", "mirror() = 3", "mirror() = 3",
            "mirror() = 3", "mirror() = 3", "mirror() = 3", "mirror() = 3", THREE, "undo() = -1", "mirror() = 3", "undo() = 0", "undo() = -1");
        WeightedNodes nodes = Script.run("an illegal text", THREE, "mirror() = 3", "load point 5 5;x = -3", "undo() = 0");
        isThree(nodes, "after an illegal text");
        nodes = Script.run("a wrong length", THREE, "mirror() = 3", "load(1) = IllegalArgumentException", "undo() = 0");
        isThree(nodes, "after a wrong length");
    }

    private static void move() {
        Script.run("the ends", THREE, "move(1, 9) = 1", "point(1, 0) = 9", "point(1, 3) = 2", "point(2, 3) = 1", "point(1, 1) = 3",
            "point(1, 2) = -3", "pointAt(9) = 1", "pointAt(1) = NoSuchElementException", "move(1, -9) = 9", "point(1, 3) = 0",
            "pointAt(-9) = 1", "move(0, 9) = 0", "move(2, 0) = 3", "point(2, 3) = 1", "undo() = 3");
        Script.run("the first error", THREE, "move(3, 10) = IndexOutOfBoundsException", "move(3, 1) = IndexOutOfBoundsException",
            "move(0, 10) = IllegalArgumentException", "move(0, 1) = IllegalStateException", "move(1, 1) = 1");
        Script.run("no point", "move(0, 0) = IndexOutOfBoundsException", "setValue(0, 0) = IndexOutOfBoundsException",
            "setWeight(0, 0) = IndexOutOfBoundsException", "removePoint(0) = IndexOutOfBoundsException", "undo() = -1");
    }

    private static void numbers() {
        Script.run("Y", THREE, "setValue(0, 20) = 1", "setValue(0, -20) = 20", "setValue(2, 20) = 1", "point(0, 1) = -20", "point(2, 1) = 20",
            "value(0, 0) = -20", "value(3, 0) = 20", "setValue(3, 0) = IndexOutOfBoundsException", "undo() = 2", "undo() = 1",
            "value(0, 0) = 20");
        Script.run("W", THREE, "setMode(2, 0) = 1", "setWeight(0, 9) = 2", "setWeight(0, -9) = 9", "setWeight(2, 0) = 4", "weight(0) = -3",
            "weight(1) = -1", "weight(2) = 0", "kindAt(3) = 1", "undo() = 3", "weight(2) = 4", "undo() = 2", "weight(0) = 9", "undo() = 1",
            "weight(0) = 2");
        // A W that does not count is kept.
        Script.run("W in another mode", THREE, "setWeight(0, 9) = 2", "weight(0) = 2", "point(0, 2) = 9", "setMode(2, 0) = 1", "weight(0) = 9");
    }

    private static void addPoint() {
        Script.run("the ends", "addPoint(-9, -20, -9) = 0", "addPoint(9, 20, 9) = 1", "addPoint(0, 0, 0) = 2", "point(0, 0) = -9",
            "point(0, 1) = -20", "point(0, 2) = -9", "point(1, 0) = 9", "point(1, 1) = 20", "point(1, 2) = 9", "point(2, 3) = 1",
            "value(-9, 0) = -20", "undo() = 2", "points() = 2", "undo() = 1", "undo() = 0", "points() = 0");
        // "a point has this X, or there are 5 points", both after the ranges.
        Script.run("the most", THREE, "addPoint(4, 0, 1) = 3", "addPoint(5, 0, 1) = 4", "addPoint(6, 0, 1) = IllegalStateException",
            "addPoint(5, 0, 1) = IllegalStateException", "addPoint(10, 0, 1) = IllegalArgumentException",
            "addPoint(6, 21, 1) = IllegalArgumentException", "addPoint(5, 0, -10) = IllegalArgumentException", "points() = 5",
            "removePoint(0) = 4", "addPoint(5, 0, 1) = IllegalStateException", "addPoint(0, 0, 1) = 4", "point(3, 0) = 5",
            "addPoint(-9, 0, 1) = IllegalStateException", "undo() = 3", "undo() = 2", "points() = 5", "point(0, 0) = 0");
        Script.run("five by text", "load point 1 0;point 2 0;point 3 0;point 4 0;point 5 0; = 5", "addPoint(6, 0, 0) = IllegalStateException",
            "removePoint(4) = 4", "addPoint(6, 0, 0) = 4", "points() = 5");
    }

    private static void removePoint() {
        Script.run("the first", THREE, "removePoint(0) = 2", "point(0, 0) = 1", "point(0, 1) = 3", "point(0, 2) = -3", "point(1, 0) = 3",
            "point(1, 1) = 1", "point(1, 2) = 4", "point(2, 0) = IndexOutOfBoundsException", "pointAt(3) = 1", "pointAt(0) = NoSuchElementException");
        Script.run("one in the middle", THREE, "removePoint(1) = 2", "point(0, 0) = 0", "point(1, 0) = 3", "point(1, 2) = 4", "weight(0) = -1",
            "weight(1) = 1");
        Script.run("the last", THREE, "removePoint(2) = 2", "point(1, 0) = 1", "removePoint(2) = IndexOutOfBoundsException",
            "removePoint(1) = 1", "removePoint(1) = IndexOutOfBoundsException", "removePoint(0) = 0", "isAlternating() = true",
            "removePoint(0) = IndexOutOfBoundsException", "degreeOf(true) = -1", "undo() = 2", "points() = 1", "undo() = 1", "undo() = 0");
        Script.run("of five", "load point 5 1;point 4 2;point 3 3;point 2 4;point 1 5; = 5", "removePoint(0) = 4", "point(3, 0) = 1",
            "point(3, 1) = 5", "removePoint(3) = 3", "point(2, 0) = 2", "undo() = 1", "undo() = 0", "point(4, 1) = 5", "point(0, 0) = 5");
    }

    private static void setMode() {
        // "it counts for the mode 1 alone (otherwise it must be in its range, too, and the degree stays)"
        Script.run("the degree", "setMode(0, 4) = 0", "degree() = 0", "setMode(1, 4) = 0", "degree() = 4", "setMode(0, 3) = 1", "degree() = 4",
            "setMode(2, 0) = 0", "degree() = 4", "setMode(1, 0) = 2", "degree() = 0", "setMode(2, 4) = 1", "degree() = 0",
            "setMode(0, 5) = IllegalArgumentException", "setMode(0, -1) = IllegalArgumentException", "setMode(2, 5) = IllegalArgumentException",
            "setMode(2, -1) = IllegalArgumentException", "setMode(1, 5) = IllegalArgumentException", "setMode(1, -1) = IllegalArgumentException",
            "setMode(3, 4) = IllegalArgumentException", "setMode(-1, 0) = IllegalArgumentException", "mode() = 2", "undo() = 5", "mode() = 1",
            "degree() = 0", "undo() = 4", "mode() = 2", "degree() = 4", "undo() = 3", "mode() = 0", "undo() = 2", "mode() = 1", "degree() = 4",
            "undo() = 1", "mode() = 0", "degree() = 0");
        Script.run("the degree of a text", "load blend 3;told; = 0", "degree() = 3", "setMode(2, 0) = 2", "setMode(0, 4) = 2", "degree() = 3",
            "setMode(1, 1) = 0", "degree() = 1", "undo() = 2", "degree() = 3");
    }

    private static void shift() {
        // "by: -18 to 18"; "if an X would not be -9 to 9"
        Script.run("no point", "shift(18) = 0", "shift(-18) = 0", "shift(19) = IllegalArgumentException", "shift(-19) = IllegalArgumentException",
            "shift(2147483647) = IllegalArgumentException", "shift(-2147483648) = IllegalArgumentException");
        Script.run("from end to end", "load point -9 4; = 1", "shift(19) = IllegalArgumentException", "shift(-1) = IllegalStateException",
            "shift(18) = 1", "point(0, 0) = 9", "shift(1) = IllegalStateException", "shift(18) = IllegalStateException", "shift(-18) = 1",
            "point(0, 0) = -9", "shift(-18) = IllegalStateException", "undo() = 1", "undo() = 0", "undo() = -1");
        // One of the points is enough to refuse, the first or the last of them; then none is moved.
        Script.run("only one would be out", "load point 9 1;point 0 2;point 1 3; = 3", "shift(1) = IllegalStateException", "point(0, 0) = 9",
            "point(1, 0) = 0", "point(2, 0) = 1", "shift(-1) = 3", "point(0, 0) = 8", "mirror() = 3", "shift(-2) = IllegalStateException",
            "shift(-1) = 3", "point(0, 0) = -9", "point(1, 0) = 0", "point(2, 0) = -1", "value(-9, 0) = 1", "undo() = 2");
        Script.run("the last would be out", "load point 0 2;point 1 3;point -9 1; = 3", "shift(-1) = IllegalStateException", "point(0, 0) = 0",
            "point(1, 0) = 1", "shift(8) = 3", "point(0, 0) = 8", "point(1, 0) = 9", "point(2, 0) = -1", "value(8, 0) = 2");
        Script.run("all of it taken", "load point 9 1;point -9 2; = 2", "shift(1) = IllegalStateException", "shift(-1) = IllegalStateException",
            "shift(0) = 2", "undo() = 0");
    }

    private static void mirror() {
        // "Each X becomes -X."
        Script.run("the ends", "load point -9 1 weight 2;point 9 3 weight 4;point 0 5 weight 6; = 3", "mirror() = 3", "point(0, 0) = 9",
            "point(0, 1) = 1", "point(0, 2) = 2", "point(1, 0) = -9", "point(1, 2) = 4", "point(2, 0) = 0", "point(0, 3) = 2", "pointAt(9) = 0",
            "value(9, 0) = 1", "mirror() = 3", "point(0, 0) = -9", "undo() = 1", "point(0, 0) = 9", "undo() = 0", "value(-9, 0) = 1");
        Script.run("the weights of X", "load point 0 0;point 1 0;point 3 0;blend 1; = 3", "weight(0) = -2", "weight(1) = 3", "weight(2) = -1",
            "mirror() = 3", "weight(0) = -2", "weight(1) = 3", "weight(2) = -1", "setMode(1, 0) = 1", "weight(0) = 1");
        Script.run("no point", "mirror() = 0", "undo() = 0");
    }
}
