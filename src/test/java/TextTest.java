/** Promises 1 to 5: a new object, feed, load and the error of a text. */
public final class TextTest {
    public static void main(String[] args) {
        newObject();
        feed();
        load();
        legalTexts();
        illegalTokens();
        otherTokens();
        ranges();
        samePlacesAndTooMany();
        Script.end();
    }

    private static void newObject() {
        Script.run("new object", "points() = 0", "mode() = 0", "degree() = 0", "errorKind() = 0", "errorPosition() = -1",
            "isAlternating() = true", "weightSum() = 0", "degreeOf(false) = -1", "degreeOf(true) = -1",
            "undo() = -1", "written(0) = IndexOutOfBoundsException", "load(1) = IllegalArgumentException", "load(0) = 0");
    }

    private static void feed() {
        // "poin" "t 1 " "2;pl" "ain;" and four spaces.
        Script.run("bytes of five numbers", "feed(1886349678, 1948266784, 842756204, 1634299451, 538976288) = 20",
            "load(16) = 1", "point(0, 0) = 1", "point(0, 1) = 2");
        WeightedNodes full = new WeightedNodes();
        for (int k = 1; k <= 20; k++) {
            Script.due("feed " + k, full.feed(0x20202020, 0x20202020, 0x20202020, 0x20202020, 0x20202020), 20 * k);
        }
        Script.go(full, "a full buffer", "feed(1, 2, 3, 4, 5) = -2", "feed(1, 2, 3, 4, 5) = -2", "load(401) = IllegalArgumentException",
            "load(400) = 0", "errorKind() = 0", "feed(538976288, 538976288, 538976288, 538976288, 538976352) = 20",
            "load(20) = -3", "errorKind() = 1", "errorPosition() = 19");
        Script.run("each byte has its place", "feed(538976288, 538976288, 538976288, 538976288, -2145378272) = 20", "load(20) = -3",
            "errorPosition() = 16");
    }

    private static void load() {
        Script.run("lengths", "feed(538976288, 538976288, 538976288, 538976288, 538976288) = 20",
            "load(-1) = IllegalArgumentException", "load(21) = IllegalArgumentException", "load(20) = 0",
            "load(1) = IllegalArgumentException", "load(0) = 0");
        Script.run("an illegal text leaves all but the buffer and the error",
            "load point 1 2 weight 3; point 4 5; blend 2; = 2", "setValue(0, 7) = 2", "shows write(true) = 3",
            "load point 0 0; told; nonsense; = -3", "errorKind() = 2", "errorPosition() = 17", "load(1) = IllegalArgumentException",
            "errorKind() = 2", "errorPosition() = 17", "points() = 2", "mode() = 1", "degree() = 2", "point(0, 1) = 7",
            "point(0, 2) = 3", "written(0) = 3", "undo() = 0", "point(0, 1) = 2", "load(0) = 0", "errorKind() = 0", "errorPosition() = -1");
        Script.run("a legal text replaces all", "load point 1 2; point 2 3; blend 3; = 2", "setMode(2, 0) = 1", "load point 5 6; = 1",
            "points() = 1", "mode() = 0", "degree() = 0", "undo() = -1", "point(0, 0) = 5", "load(0) = 0", "points() = 0");
        Script.run("only the first bytes are read", "feed(1886349678, 1948266784, 842756204, 1634299451, 538976288) = 20",
            "load(10) = 1", "load(0) = 0");
    }

    private static void legalTexts() {
        Script.run("spaces and line feeds", "load | | point|-|9   - 20|weight - 09|; ||plain ; = 1", "point(0, 0) = -9",
            "point(0, 1) = -20", "point(0, 2) = -9", "load point9 20weight9;told; = 1", "point(0, 0) = 9", "point(0, 1) = 20",
            "point(0, 2) = 9", "mode() = 2", "load point-1-2; = 1", "point(0, 0) = -1", "point(0, 1) = -2", "point(0, 2) = 1");
        Script.run("zeros", "load point -0 -00 weight -0; = 1", "point(0, 0) = 0", "point(0, 1) = 0", "point(0, 2) = 0");
        Script.run("the last mode counts", "load plain;blend 4;told;blend 00;told; = 0", "mode() = 2", "degree() = 0",
            "load told;blend 3; = 0", "mode() = 1", "degree() = 3", "load blend 3;plain; = 0", "mode() = 0", "degree() = 3");
        Script.run("five points", "load point 9 1;point -9 2;point 0 3;point 1 4;point 2 5; = 5", "point(4, 1) = 5", "errorKind() = 0");
    }

    private static void error(String text, int kind, int position) {
        Script.run("error in " + text, "load " + text + " = -3", "errorKind() = " + kind, "errorPosition() = " + position);
    }

    private static void illegalTokens() {
        error("+", 1, 0);
        error("point A", 1, 6);
        error("poinT 1 2;", 2, 0);
        error("Point 1 2;", 1, 0);
        error("pointpoint 1 2;", 1, 0);
        error("pointpoin", 1, 0);
        error("pointpoi", 2, 0);
        error("point 001 2;", 1, 6);
        error("point 1 222;", 1, 8);
        error("point 1 2,", 1, 9);
        error("point 1 2 weighting", 1, 10);
        error("point 1 2 abcdefgh", 2, 10);
        error("plain; \u00e9", 1, 7);
        error("plain\t;", 1, 5);
        error("plain\r;", 1, 5);
        error("plain`", 1, 5);
        error("plain{", 1, 5);
        error("plain:", 1, 5);
        error("plain/", 1, 5);
        error("plain 123", 1, 6);
        error("blend 1.5;", 1, 7);
    }

    private static void otherTokens() {
        error("point", 2, 5);
        error("point |", 2, 7);
        error("point ;", 2, 6);
        error("point - ;", 2, 8);
        error("point - - 1", 2, 8);
        error("point -", 2, 7);
        error("point 1", 2, 7);
        error("point 1 ;", 2, 8);
        error("point 1 2", 2, 9);
        error("point 1 2 3", 2, 10);
        error("point 1 2 -", 2, 10);
        error("point 1 2 point", 2, 10);
        error("point 1 2 weight", 2, 16);
        error("point 1 2 weight;", 2, 16);
        error("point 1 2 weight 3", 2, 18);
        error("point 1 2 weight 3 weight 4;", 2, 19);
        error("point 1 2 weigh 3;", 2, 10);
        error("weight 1;", 2, 0);
        error("points 1 2;", 2, 0);
        error("poin", 2, 0);
        error("joint 1 2;", 2, 0);
        error("slain;", 2, 0);
        error("bold;", 2, 0);
        error("tola;", 2, 0);
        error("glend 1;", 2, 0);
        error("point 1 2 height 3;", 2, 10);
        error("a", 2, 0);
        error("z", 2, 0);
        error(";", 2, 0);
        error("7", 2, 0);
        error("-", 2, 0);
        error("plain", 2, 5);
        error("plain plain", 2, 6);
        error("told 1;", 2, 5);
        error("blend", 2, 5);
        error("blend ;", 2, 6);
        error("blend -1;", 2, 6);
        error("blend -0;", 2, 6);
        error("blend 1", 2, 7);
        error("blend 1 2;", 2, 8);
        error("plain;;", 2, 6);
    }

    private static void ranges() {
        error("point 10 2;", 3, 6);
        error("point -10 2;", 3, 7);
        error("point - 10 2;", 3, 8);
        error("point 1 21;", 3, 8);
        error("point 1 -21;", 3, 9);
        error("point 1 -20 weight 10", 3, 19);
        error("point 1 20 weight - 10", 3, 20);
        error("point 10 2; + 1;", 3, 6);
        error("point 1 21; + 1;", 3, 8);
        error("point 1 -20 weight 10; + 1;", 3, 19);
        error("point 1 20 weight ; + 1;", 2, 18);
        error("blend 5; + 1;", 3, 6);
        error("blend 5", 3, 6);
        error("blend 99;", 3, 6);
    }

    private static void samePlacesAndTooMany() {
        error("point 1 2;point 1", 4, 16);
        error("point 0 2;point -0 1;", 4, 17);
        error("point -3 2;point 3 1;point - 03 9;", 4, 29);
        error("point 1 2;point 11 3;", 3, 16);
        String five = "point 1 0;point 2 0;point 3 0;point 4 0;point 5 0;";
        error(five + " point", 5, 51);
        error(five + "told;point 77", 5, 55);
        error(five + "points", 2, 50);
        error(five + "plain;point;point", 5, 56);
        error("point 1 0;point 2 0;point 3 0;point 4 0;point 5 0 point", 2, 50);
    }
}
