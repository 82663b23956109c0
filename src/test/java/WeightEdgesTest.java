/** The sections WEIGHTS and POLYNOMIALS and promises 6 to 24, a sentence at a time, at their edges. */
public final class WeightEdgesTest {
    private static final String ALL_ZERO = "load point 0 1 weight 0;point 2 3 weight 0;told; = 2";

    public static void main(String[] args) {
        noFactors();
        smallerDegree();
        commonDivisor();
        alternating();
        sums();
        degreesOfPolynomials();
        powers();
        kindsAtTheEnds();
        doubleRoots();
        gapsOfFivePoints();
        lowestTerms();
        doubles();
        met();
        kinds();
        hidden();
        nextPole();
        extremes();
        Script.end();
    }

    private static void noFactors() {
        // "(A product of no factors is 1.)"
        for (int mode = 0; mode <= 2; mode++) {
            for (int degree = 0; degree <= 4; degree++) {
                Script.run("one point in the mode " + mode, "addPoint(-7, -20, 5) = 0", "setMode(" + mode + ", " + degree + ") = 0",
                    "weight(0) = 1", "weightSum() = 1", "isAlternating() = true", "coefficient(true, 0) = 1", "coefficient(false, 0) = -20",
                    "coefficient(true, 1) = 0", "degreeOf(true) = 0", "degreeOf(false) = 0", "value(12, 0) = -20", "missed() = 0",
                    "undo() = 1", "undo() = 0", "weightSum() = 0", "kindAt(0) = 3");
            }
        }
    }

    private static void smallerDegree() {
        // "with d as the smaller one of the degree and n - 1"
        Script.run("two points", "load point 4 0;point -1 0;blend 0; = 2", "weight(0) = -1", "weight(1) = 1", "setMode(1, 1) = 1",
            "weight(0) = 1", "weight(1) = -1", "setMode(1, 2) = 1", "weight(0) = 1", "weight(1) = -1", "setMode(1, 4) = 1", "weight(0) = 1",
            "degree() = 4");
        Script.run("three points", "load point 0 0;point 1 0;point 3 0;blend 1; = 3", "weight(0) = -2", "weight(1) = 3", "weight(2) = -1",
            "setMode(1, 2) = 1", "weight(0) = 2", "weight(1) = -3", "weight(2) = 1", "setMode(1, 3) = 1", "weight(0) = 2",
            "setMode(1, 4) = 1", "weight(0) = 2", "setMode(1, 0) = 1", "weight(0) = 1", "weight(1) = -1", "weight(2) = 1");
        Script.run("four points", "load point 0 0;point 1 0;point 3 0;point 4 0;blend 3; = 4", "weight(0) = -1", "weight(1) = 2",
            "weight(2) = -2", "weight(3) = 1", "setMode(1, 4) = 1", "weight(0) = -1", "weight(1) = 2", "setMode(0, 0) = 1", "weight(0) = -1",
            "weight(1) = 2");
        // The degree counts anew when there is one point more or less.
        Script.run("a fourth point", "load point 0 0;point 1 0;point 3 0;blend 4; = 3", "weight(0) = 2", "addPoint(4, 0, 1) = 3",
            "weight(0) = -1", "removePoint(0) = 3", "weight(0) = 1", "weight(1) = -3", "weight(2) = 2", "removePoint(0) = 2", "weight(0) = -1",
            "removePoint(0) = 1", "weight(0) = 1");
    }

    private static void commonDivisor() {
        // "whole numbers without a common divisor greater than 1 (all 0 if all raw weights are 0)"
        Script.run("all alike", "load point 0 0 weight 9;point 1 0 weight 9;told; = 2", "weight(0) = 1", "weight(1) = 1");
        Script.run("all alike, less than 0", "load point 0 0 weight -9;point 1 0 weight -9;told; = 2", "weight(0) = -1", "weight(1) = -1");
        Script.run("one of them is 0", "load point 0 0 weight 0;point 1 0 weight -8;point 2 0 weight 6;told; = 3", "weight(0) = 0",
            "weight(1) = -4", "weight(2) = 3");
        Script.run("1 and 9", "load point 0 0 weight 1;point 1 0 weight 9;told; = 2", "weight(0) = 1", "weight(1) = 9");
        Script.run("9 and 8", "load point 0 0 weight 9;point 1 0 weight -8;told; = 2", "weight(0) = 9", "weight(1) = -8");
        Script.run("all 0", ALL_ZERO, "weight(0) = 0", "weight(1) = 0", "weightSum() = 0", "setMode(0, 0) = 2", "weight(0) = -1",
            "weight(1) = 1", "undo() = 0", "weight(1) = 0", "setWeight(1, -9) = 0", "weight(0) = 0", "weight(1) = -1");
    }

    private static void alternating() {
        Script.run("no point", "isAlternating() = true");
        Script.run("one 0", "load point 0 0 weight 0;told; = 1", "isAlternating() = false");
        Script.run("0 in the middle", "load point 0 0 weight 1;point 1 0 weight 0;point 2 0 weight -1;told; = 3", "isAlternating() = false",
            "setWeight(1, -1) = 0", "isAlternating() = false", "setWeight(2, 1) = -1", "isAlternating() = true", "setWeight(0, 0) = 1",
            "isAlternating() = false", "setWeight(0, 9) = 0", "isAlternating() = true", "setWeight(2, 0) = 1", "isAlternating() = false");
        // Sorted by X, not by their numbers.
        Script.run("by X", "load point 5 0 weight 2;point -5 0 weight 3;point 0 0 weight -4;told; = 3", "isAlternating() = true",
            "move(2, 9) = 0", "isAlternating() = false", "undo() = 0", "isAlternating() = true");
        Script.run("only neighbours", "load point 0 0 weight 1;point 1 0 weight -1;point 2 0 weight 1;point 3 0 weight -1;point 4 0 weight 1;"
            + "told; = 5", "isAlternating() = true", "setWeight(4, -1) = 1", "isAlternating() = false", "setWeight(3, 1) = -1",
            "isAlternating() = false", "setWeight(2, -1) = 1", "setWeight(1, 1) = -1", "isAlternating() = false", "setWeight(0, -1) = 1",
            "isAlternating() = true");
    }

    private static void sums() {
        Script.run("the greatest sum", "load point 0 0 weight 9;point 1 0 weight 9;point 2 0 weight 9;point 3 0 weight 9;point 4 0 weight 8;"
            + "told; = 5", "weightSum() = 44", "setWeight(4, 9) = 8", "weightSum() = 5", "removePoint(0) = 4", "weightSum() = 4");
        Script.run("the smallest sum", "load point 0 0 weight -9;point 1 0 weight -9;point 2 0 weight -9;point 3 0 weight -9;"
            + "point 4 0 weight -8;told; = 5", "weightSum() = -44");
    }

    private static void degreesOfPolynomials() {
        // "The degree .. is the greatest power with a coefficient other than 0; that of 0 is NONE."
        Script.run("no point", "degreeOf(true) = -1", "degreeOf(false) = -1");
        Script.run("all weights 0", ALL_ZERO, "degreeOf(true) = -1", "degreeOf(false) = -1");
        // (x - 1) - x, and (x - 1) + x.
        Script.run("the greatest power falls away", "load point 0 1 weight 1;point 1 1 weight -1;told; = 2", "degreeOf(true) = 0",
            "degreeOf(false) = 0", "setValue(1, -1) = 1", "degreeOf(true) = 0", "degreeOf(false) = 1", "setValue(0, 0) = 1",
            "setValue(1, 0) = -1", "degreeOf(true) = 0", "degreeOf(false) = -1");
        Script.run("0 of 4", "load point 0 1;point 1 1;point -1 1;point 2 1;point -2 1; = 5", "degreeOf(true) = 0", "degreeOf(false) = 0",
            "setValue(0, 2) = 1", "degreeOf(false) = 4", "setMode(2, 0) = 0", "degreeOf(true) = 4", "degreeOf(false) = 4");
    }

    private static void powers() {
        // "power: 0 to 4", however many points there are.
        Script.run("no point", "coefficient(false, 0) = 0", "coefficient(true, 4) = 0", "coefficient(true, 5) = IllegalArgumentException",
            "coefficient(false, -1) = IllegalArgumentException");
        // P(0) x^4 - 5x^2 + 4, P(2) x^4 + 2x^3 - x^2 - 2x, P(-2) x^4 - 2x^3 - x^2 + 2x.
        Script.run("five points", "load point 0 3 weight 1;point 1 0 weight 0;point -1 0 weight 0;point 2 -4 weight -2;point -2 5 weight 1;"
            + "told; = 5", "coefficient(true, 4) = 0", "coefficient(true, 3) = -6", "coefficient(true, 2) = -4", "coefficient(true, 1) = 6",
            "coefficient(true, 0) = 4", "coefficient(false, 4) = 16", "coefficient(false, 3) = 6", "coefficient(false, 2) = -28",
            "coefficient(false, 1) = -6", "coefficient(false, 0) = 12", "degreeOf(true) = 3", "removePoint(4) = 4",
            "coefficient(false, 4) = 0", "coefficient(true, 4) = 0");
    }

    private static void kindsAtTheEnds() {
        // The denominator is x - 12.
        Script.run("a gap at 12", "load point 9 5 weight -3;point 8 5 weight 4;told; = 2", "kindAt(12) = 1", "value(12, 0) = 5",
            "value(12, 1) = 1", "about(12) = 5.0", "many(1) = 1", "many(0) = 24", "hiddenPoles() = 0", "nextPole(12) = NoSuchElementException",
            "extreme(true) = -12", "mirror() = 2", "kindAt(-12) = 1", "value(-12, 0) = 5", "kindAt(12) = 0", "many(1) = 1");
        Script.run("a pole at 12", "load point 9 5 weight -3;point 8 1 weight 4;told; = 2", "kindAt(12) = 2", "kindAt(11) = 0",
            "value(12, 0) = NoSuchElementException", "about(12) = NoSuchElementException", "value(11, 0) = 37", "many(2) = 1",
            "many(0) = 24", "extreme(true) = 11", "extreme(false) = -12", "mirror() = 2", "kindAt(-12) = 2", "nextPole(-12) = -12",
            "nextPole(-11) = NoSuchElementException", "hiddenPoles() = 0", "extreme(true) = -11", "extreme(false) = 12");
        // The denominator is x - 13: that is out of sight.
        Script.run("a pole at 13", "load point 9 1 weight -4;point 8 2 weight 5;told; = 2", "many(2) = 0", "many(0) = 25",
            "hiddenPoles() = 0", "nextPole(-12) = NoSuchElementException", "nextPole(12) = NoSuchElementException", "value(12, 0) = -14",
            "kindAt(13) = IllegalArgumentException", "mirror() = 2", "many(2) = 0", "nextPole(-12) = NoSuchElementException");
    }

    private static void doubleRoots() {
        // "1 .. if both are 0 there but the derivative of the denominator is not; 2 .. the numerator is not; 3 otherwise"
        String text = "load point 9 5 weight 1;point 6 5 weight -8;point 3 5 weight 9;told; = 3";
        Script.run("2(x - 12)^2 and nothing", text, "kindAt(12) = 3", "value(12, 0) = NoSuchElementException", "many(3) = 1", "many(0) = 24",
            "extreme(true) = -12", "nextPole(-12) = NoSuchElementException", "setValue(2, 4) = 5", "kindAt(12) = 2", "many(2) = 1",
            "many(3) = 0", "hiddenPoles() = 0", "nextPole(-12) = 12", "nextPole(12) = 12", "extreme(true) = 8", "extreme(false) = 11",
            "mirror() = 3", "kindAt(-12) = 2", "nextPole(-12) = -12", "nextPole(-11) = NoSuchElementException");
        // 2(x - 1)^2 does not change its sign; the numerator is 0 at 1, too.
        Script.run("2(x - 1)^2", "load point 0 5;point 1 5 weight 0;point 2 6;told; = 3", "kindAt(1) = 3", "isMet(1) = false", "missed() = 1",
            "hiddenPoles() = 0", "nextPole(-12) = NoSuchElementException", "setWeight(1, 1) = 0", "kindAt(1) = 0", "isMet(1) = true");
    }

    private static void gapsOfFivePoints() {
        // N 17x^4 + 64x^3 + 49x^2 - 58x and D 4x^4 + x^3 - x^2 + 14x, so -58 / 14 at 0; ends 12 and -12 by hand, too.
        Script.run("a gap with five points", "load point -2 3 weight 1;point -1 -5 weight 2;point 0 7 weight 0;point 1 4 weight -3;"
            + "point 2 9 weight 4;told; = 5", "kindAt(0) = 1", "value(0, 0) = -29", "value(0, 1) = 7", "isMet(2) = false", "missed() = 1",
            "about(0) = " + (-29.0 / 7.0), "value(12, 0) = 19561", "value(12, 1) = 3529", "value(-12, 0) = 10403", "value(-12, 1) = 3371",
            "hiddenPoles() = 1", "nextPole(-12) = -2", "many(1) = 1", "extreme(true) = 2", "extreme(false) = -1",
            "shows writeValues() = 44/41 3 -5 -29/7 4 9 281/32", "shift(3) = 5", "kindAt(3) = 1", "value(3, 0) = -29", "value(3, 1) = 7",
            "mirror() = 5", "value(-3, 0) = -29", "value(-3, 1) = 7");
        Script.run("a power of four", "load point 0 0;point 1 1;point -1 1;point 2 16;point -2 16; = 5", "value(12, 0) = 20736",
            "value(-12, 0) = 20736", "value(3, 0) = 81", "value(-3, 1) = 1", "extreme(true) = -12", "extreme(false) = 0");
    }

    private static void lowestTerms() {
        // "Fractions are told in lowest terms, with a denominator greater than 0 (0 is 0 / 1)."
        Script.run("0", "load point 0 0;point 3 0;blend 0; = 2", "value(5, 0) = 0", "value(5, 1) = 1", "slope(0, 0) = 0", "slope(0, 1) = 1",
            "divided(0, 1, 0) = 0", "divided(0, 1, 1) = 1", "plainValue(1, 1) = 1", "valueIf(0, 1, 5, 1) = 1", "valueWithout(0, 5, 1) = 1",
            "row(0, 0, 0) = -1", "row(0, 0, 1) = 3");
        // (x - 3) + 3x over (x - 3) + x, so the denominators at 0 and 1 are less than 0.
        Script.run("signs", "load point 0 1;point 3 3;told; = 2", "value(0, 0) = 1", "value(0, 1) = 1", "value(1, 0) = -1", "value(1, 1) = 1",
            "value(-1, 0) = 7", "value(-1, 1) = 5", "value(4, 0) = 13", "value(4, 1) = 5", "value(-3, 0) = 5", "value(-3, 1) = 3",
            "row(0, 1, 0) = -1", "row(0, 1, 1) = 3", "row(1, 0, 0) = 1", "row(1, 0, 1) = 3", "divided(0, 1, 0) = 2", "divided(0, 1, 1) = 3");
        Script.run("a gap of 0", "load point 0 0;point 1 0;point 2 7 weight 0;told; = 3", "kindAt(2) = 1", "value(2, 0) = 0",
            "value(2, 1) = 1");
    }

    private static void doubles() {
        Script.run("about", "load point 0 0;point 7 -20; = 2", "about(1) = " + (-20.0 / 7.0), "about(0) = 0.0", "about(7) = -20.0",
            "about(-12) = " + (240.0 / 7.0), "about(12) = " + (-240.0 / 7.0));
        // The denominator is less than 0, the value is 0 and not -0.
        Script.run("about 0", "load point -9 0;point -8 0;point -6 0;point 5 0;point 9 0;blend 3; = 5", "coefficient(true, 0) = -18378360",
            "about(12) = 0.0", "about(5) = 0.0");
    }

    private static void met() {
        Script.run("a weight of 0", "load point 0 4 weight 3;point 5 4 weight 0;point -5 3 weight 0;told; = 3", "isMet(0) = true",
            "isMet(1) = true", "isMet(2) = false", "missed() = 1", "setValue(2, 4) = 3", "missed() = 0", "setWeight(0, 0) = 3", "missed() = 3",
            "isMet(0) = false", "setMode(0, 0) = 2", "missed() = 0");
        Script.run("no point", "missed() = 0", "isMet(0) = IndexOutOfBoundsException");
        Script.run("all five", "load point 0 4;point 1 1;point 2 2;point 3 3;point 4 4;told; = 5", "missed() = 0", "setWeight(0, 0) = 1",
            "setWeight(1, 0) = 1", "setWeight(2, 0) = 1", "setWeight(3, 0) = 1", "missed() = 3", "setWeight(4, 0) = 1", "missed() = 5");
    }

    private static void kinds() {
        Script.run("no point", "many(0) = 0", "many(1) = 0", "many(2) = 0", "many(3) = 25", "many(4) = 0", "many(-1) = 0",
            "many(2147483647) = 0", "many(-2147483648) = 0");
        // The weight of one point alone is not 0: gaps at all others.
        Script.run("four gaps", "load point -9 1 weight 0;point 9 2 weight 0;point 0 5 weight -9;point 1 6 weight 0;point -1 7 weight 0;told; = 5",
            "many(0) = 21", "many(1) = 4", "many(2) = 0", "many(3) = 0", "value(-9, 0) = 5", "value(9, 0) = 5", "extreme(true) = -12",
            "extreme(false) = -12", "missed() = 4", "hiddenPoles() = 0");
    }

    private static void hidden() {
        // 2x - 1 changes its sign between 0 and 1, though the numerator is 0 there, too.
        Script.run("a gap between", "load point 0 5;point 1 5;told; = 2", "many(0) = 25", "hiddenPoles() = 1", "nextPole(-12) = 0",
            "nextPole(0) = 0", "nextPole(1) = NoSuchElementException");
        // The denominator is 0 at 1, so it has no sign there.
        Script.run("a pole at a whole number", "load point 0 1;point 2 3;told; = 2", "hiddenPoles() = 0", "nextPole(0) = 1");
        Script.run("a gap at a whole number", "load point 0 5;point 2 5;told; = 2", "hiddenPoles() = 0", "nextPole(0) = NoSuchElementException");
        Script.run("four", "load point -9 20 weight 9;point -8 -20 weight 9;point 0 20 weight 9;point 8 -20 weight 9;point 9 20 weight 8;"
            + "told; = 5", "hiddenPoles() = 4", "nextPole(-12) = -9", "nextPole(-9) = -9", "nextPole(-8) = -4", "nextPole(-3) = 3",
            "nextPole(4) = 8", "nextPole(9) = NoSuchElementException", "extreme(true) = -3", "extreme(false) = 4");
        Script.run("no point", "hiddenPoles() = 0", "setMode(2, 0) = 0", "hiddenPoles() = 0");
        Script.run("all weights 0", ALL_ZERO, "hiddenPoles() = 0", "nextPole(-12) = NoSuchElementException");
    }

    private static void nextPole() {
        // Roots of the denominator at 11.5 and at -11.5: the last and the first place of a hidden one.
        Script.run("behind 11", "load point 9 1 weight -5;point 8 2 weight 7;told; = 2", "nextPole(-12) = 11", "nextPole(11) = 11",
            "nextPole(12) = NoSuchElementException", "hiddenPoles() = 1", "mirror() = 2", "nextPole(-12) = -12",
            "nextPole(-11) = NoSuchElementException", "hiddenPoles() = 1");
        // 12.5: between 12 and 13, and mirrored between -13 and -12.
        Script.run("behind 12", "load point 9 1 weight -7;point 8 2 weight 9;told; = 2", "nextPole(12) = NoSuchElementException",
            "hiddenPoles() = 0", "mirror() = 2", "nextPole(-12) = NoSuchElementException", "hiddenPoles() = 0");
        Script.run("from", "load point 0 1;point 2 3;told; = 2", "nextPole(-12) = 1", "nextPole(1) = 1", "nextPole(2) = NoSuchElementException",
            "nextPole(13) = IllegalArgumentException", "nextPole(-13) = IllegalArgumentException");
    }

    private static void extremes() {
        // "the smallest one of several"
        Script.run("x^2", "load point 0 0;point 1 1;point -1 1; = 3", "extreme(true) = -12", "extreme(false) = 0");
        Script.run("all above 0", "load point 0 1;point 1 2;point -1 2; = 3", "extreme(true) = -12", "extreme(false) = 0");
        Script.run("all below 0", "load point 0 -1;point 1 -2;point -1 -2; = 3", "extreme(true) = 0", "extreme(false) = -12");
        Script.run("0 at 0 and at 1", "load point 0 0;point 1 0;point -1 2;point 2 14;point -2 18; = 5", "extreme(true) = -12",
            "extreme(false) = 0", "mirror() = 5", "extreme(true) = 12", "extreme(false) = -1");
        Script.run("down", "load point 0 0;point 1 -1; = 2", "extreme(true) = -12", "extreme(false) = 12");
        Script.run("one for all", "load point 0 -20; = 1", "extreme(true) = -12", "extreme(false) = -12");
        Script.run("none", ALL_ZERO, "extreme(true) = NoSuchElementException", "extreme(false) = NoSuchElementException");
        Script.run("no point", "extreme(true) = NoSuchElementException", "extreme(false) = NoSuchElementException");
    }
}
