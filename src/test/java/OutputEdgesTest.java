/** Promises 42 to 44, a sentence at a time, at their edges. */
public final class OutputEdgesTest {
    public static void main(String[] args) {
        terms();
        ones();
        nothingWritten();
        inPlace();
        indices();
        values();
        Script.end();
    }

    private static void terms() {
        // "for each power with a coefficient other than 0, from the greatest one on"
        Script.run("every power", "load point 0 1;point 1 -1;point 2 3;point 3 4;point 4 5;told; = 5",
            "shows write(true) = 5x^4-40x^3+105x^2-100x+24", "shows write(false) = 12x^4-83x^3+177x^2-124x+24", "mirror() = 5",
            "shows write(true) = 5x^4+40x^3+105x^2+100x+24", "shows write(false) = 12x^4+83x^3+177x^2+124x+24");
        Script.run("every second power", "load point 0 1 weight 1;point 1 1 weight 0;point -1 1 weight 0;point 2 1 weight 0;"
            + "point -2 1 weight 0;told; = 5", "shows write(true) = x^4-5x^2+4", "shows write(false) = x^4-5x^2+4", "setValue(0, -1) = 1",
            "shows write(false) = -x^4+5x^2-4", "shows write(true) = x^4-5x^2+4", "setWeight(0, -1) = 1", "shows write(true) = -x^4+5x^2-4",
            "shows write(false) = x^4-5x^2+4");
        Script.run("one power alone", "load point 0 0;point 1 1;point -1 1;point 2 16;point -2 16; = 5", "shows write(false) = 24x^4",
            "shows write(true) = 24", "setValue(3, -16) = 16", "setValue(4, 8) = 16", "load point 0 0;point 1 -1;point -1 -1; = 3",
            "shows write(false) = -2x^2", "load point 1 -1;point -1 1; = 2", "shows write(false) = -2x", "shows write(true) = 2",
            "load point 4 -20; = 1", "shows write(false) = -20");
    }

    private static void ones() {
        // "the coefficient without its sign (1 only for the power 0)"
        Script.run("1", "load point 5 1; = 1", "shows write(false) = 1", "shows write(true) = 1", "setValue(0, -1) = 1",
            "shows write(false) = -1", "setValue(0, 10) = -1", "shows write(false) = 10", "setValue(0, -11) = 10", "shows write(false) = -11");
        // P(0) is x - 1, P(1) is x.
        Script.run("x", "load point 0 1 weight 1;point 1 0 weight 0;told; = 2", "shows write(false) = x-1", "shows write(true) = x-1",
            "setValue(0, -1) = 1", "shows write(false) = -x+1", "setWeight(0, -1) = 1", "shows write(false) = x-1", "shows write(true) = -x+1",
            "setValue(0, 10) = -1", "shows write(false) = -10x+10", "setValue(0, 11) = 10", "shows write(false) = -11x+11",
            "mirror() = 2", "shows write(true) = -x-1", "setWeight(0, 1) = -1", "shows write(true) = x+1", "shows write(false) = 11x+11");
        // x(x + 1)(x - 2), and x(x + 1).
        Script.run("x^3", "load point 1 1 weight 1;point 0 0 weight 0;point -1 0 weight 0;point 2 0 weight 0;told; = 4",
            "shows write(false) = x^3-x^2-2x", "setValue(0, -1) = 1", "shows write(false) = -x^3+x^2+2x", "shows write(true) = x^3-x^2-2x");
        Script.run("x^2", "load point 1 1 weight 1;point 0 0 weight 0;point -1 0 weight 0;told; = 3", "shows write(false) = x^2+x",
            "setValue(0, -1) = 1", "shows write(false) = -x^2-x", "setValue(0, 12) = -1", "shows write(false) = 12x^2+12x");
    }

    private static void nothingWritten() {
        // "\"0\" if there is none"
        Script.run("no point", "shows write(false) = 0", "shows write(true) = 0", "write(true) = 1", "written(0) = 0",
            "written(1) = IndexOutOfBoundsException", "shows writeValues() = ? ? ? ? ? ? ?", "writeValues() = 13");
        Script.run("all weights 0", "load point 0 1 weight 0;told; = 1", "shows write(false) = 0", "shows write(true) = 0",
            "shows writeValues() = ? ? ? ? ? ? ?");
        Script.run("all Y 0", "load point 0 0;point 1 0; = 2", "shows write(false) = 0", "shows write(true) = 1",
            "shows writeValues() = 0 0 0 0 0 0 0");
    }

    private static void inPlace() {
        // "in place of what the output has"; edits, loads and questions leave it.
        Script.run("in place", "load point 0 1;point 1 3;point 3 1;told; = 3", "write(false) = 10", "shows write(true) = 3x^2-8x+3",
            "written(9) = IndexOutOfBoundsException", "write(false) = 10", "written(9) = 3", "written(10) = IndexOutOfBoundsException",
            "removePoint(0) = 2", "removePoint(0) = 1", "written(9) = 3", "shows write(true) = 1", "undo() = 1", "written(0) = 1",
            "written(1) = IndexOutOfBoundsException", "load(0) = 0", "written(0) = 1", "load x = -3", "written(0) = 1", "many(3) = 25",
            "written(0) = 1", "written(1) = IndexOutOfBoundsException", "writeValues() = 13", "written(12) = ?", "write(true) = 1",
            "written(0) = 0", "written(1) = IndexOutOfBoundsException", "kindAt(13) = IllegalArgumentException", "written(0) = 0");
    }

    private static void indices() {
        Script.run("nothing was written yet", "written(0) = IndexOutOfBoundsException", "written(-1) = IndexOutOfBoundsException",
            "addPoint(0, 1, 1) = 0", "load(1) = IllegalArgumentException", "written(0) = IndexOutOfBoundsException");
        Script.run("the ends", "addPoint(0, -20, 1) = 0", "write(false) = 3", "written(0) = -", "written(1) = 2", "written(2) = 0",
            "written(3) = IndexOutOfBoundsException", "written(-1) = IndexOutOfBoundsException", "written(-2147483648) = IndexOutOfBoundsException",
            "written(2147483647) = IndexOutOfBoundsException", "written(2) = 0");
    }

    private static void values() {
        // "at all whole numbers from -3 to 3", "the numerator and, if it is not 1, / and the denominator"
        Script.run("the places", "load point 0 0;point 1 1; = 2", "shows writeValues() = -3 -2 -1 0 1 2 3", "mirror() = 2",
            "shows writeValues() = 3 2 1 0 -1 -2 -3");
        Script.run("fractions", "load point 0 0;point 3 -1; = 2", "shows writeValues() = 1 2/3 1/3 0 -1/3 -2/3 -1", "setValue(1, 20) = -1",
            "shows writeValues() = -20 -40/3 -20/3 0 20/3 40/3 20");
        // "! for a pole and ? for nothing": at the ends, too.
        Script.run("a pole", "load point 0 1;point 2 3;told; = 2", "shows writeValues() = 7/4 5/3 3/2 1 ! 3 5/2", "shift(2) = 2",
            "shows writeValues() = 11/6 9/5 7/4 5/3 3/2 1 !", "shift(-6) = 2", "shows writeValues() = ! 3 5/2 7/3 9/4 11/5 13/6");
        Script.run("nothing", "load point 0 5 weight 1;point 1 5 weight 0;point 2 5 weight 1;told; = 3",
            "shows writeValues() = 5 5 5 5 ? 5 5", "shift(2) = 3", "shows writeValues() = 5 5 5 5 5 5 ?", "shift(-6) = 3",
            "shows writeValues() = ? 5 5 5 5 5 5");
        // A gap is no pole: its value is written.
        Script.run("a gap", "load point 0 0;point 1 2;point 2 5 weight 0;told; = 3", "shows writeValues() = 6/7 4/5 2/3 0 2 4/3 6/5",
            "setValue(1, 0) = 2", "shows writeValues() = 0 0 0 0 0 0 0");
    }
}
