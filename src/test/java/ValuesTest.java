/** Promises 14 to 24: polynomials, values and poles. */
public final class ValuesTest {
    public static void main(String[] args) {
        polynomials();
        plainValues();
        gapsAndPoles();
        met();
        poles();
        extremes();
        empty();
        Script.end();
    }

    private static void polynomials() {
        // 1 * P(0) + 2 * P(1) + 4 * P(2), and the same with Y 3, 0, -1.
        String text = "load point 0 3 weight 1;point 1 0 weight 2;point 2 -1 weight 4;told; = 3";
        Script.run("polynomials", text, "degreeOf(true) = 2", "coefficient(true, 2) = 7", "coefficient(true, 1) = -11",
            "coefficient(true, 0) = 2", "degreeOf(false) = 2", "coefficient(false, 2) = -1", "coefficient(false, 1) = -5",
            "coefficient(false, 0) = 6", "coefficient(false, 3) = 0", "coefficient(true, 4) = 0",
            "coefficient(true, 5) = IllegalArgumentException", "coefficient(false, -1) = IllegalArgumentException");
        Script.run("degrees", "load point 0 0;point 1 0;point 3 0; = 3", "degreeOf(false) = -1", "degreeOf(true) = 0",
            "coefficient(true, 0) = 6", "setMode(1, 0) = 0", "degreeOf(true) = 2");
        Script.run("five points", "load point 0 1;point 1 0;point -1 0;point 2 0;point -2 0;told; = 5", "degreeOf(true) = 4",
            "coefficient(true, 4) = 5", "degreeOf(false) = 4", "coefficient(false, 4) = 1", "coefficient(false, 2) = -5",
            "coefficient(false, 0) = 4", "coefficient(false, 1) = 0");
    }

    private static void plainValues() {
        // 1 - 3x + x^2
        Script.run("a parabola", "load point 0 1;point 1 -1;point 3 1; = 3", "value(-12, 0) = 181", "value(12, 0) = 109",
            "value(2, 0) = -1", "value(2, 1) = 1", "about(2) = -1.0", "kindAt(12) = 0", "kindAt(-12) = 0",
            "kindAt(13) = IllegalArgumentException", "kindAt(-13) = IllegalArgumentException", "value(13, 0) = IllegalArgumentException",
            "value(-13, 0) = IllegalArgumentException", "value(0, 2) = IllegalArgumentException", "value(0, -1) = IllegalArgumentException",
            "about(13) = IllegalArgumentException", "about(-13) = IllegalArgumentException");
        Script.run("fractions", "load point 0 0;point 3 -1; = 2", "value(-1, 0) = 1", "value(-1, 1) = 3", "value(1, 0) = -1",
            "value(1, 1) = 3", "value(0, 0) = 0", "value(0, 1) = 1", "about(1) = " + (-1.0 / 3.0), "about(0) = 0.0", "about(-12) = 4.0",
            "value(6, 0) = -2", "value(6, 1) = 1");
    }

    private static void gapsAndPoles() {
        // Numerator 2x(x - 2), denominator (x - 1)(x - 2) + x(x - 2) = (2x - 1)(x - 2).
        Script.run("a gap", "load point 0 0;point 1 2;point 2 5 weight 0;told; = 3", "kindAt(2) = 1", "value(2, 0) = 4",
            "value(2, 1) = 3", "about(2) = " + (4.0 / 3.0), "kindAt(0) = 0", "kindAt(3) = 0", "many(1) = 1", "many(0) = 24",
            "many(2) = 0", "many(3) = 0");
        // Numerator (x - 2) + 3x, denominator (x - 2) + x = 2x - 2.
        Script.run("a pole", "load point 0 1;point 2 3;told; = 2", "kindAt(1) = 2", "value(1, 0) = NoSuchElementException",
            "about(1) = NoSuchElementException", "value(1, 2) = IllegalArgumentException", "value(0, 0) = 1", "value(2, 0) = 3",
            "value(3, 0) = 5", "value(3, 1) = 2", "many(2) = 1", "many(0) = 24");
        Script.run("nothing everywhere", "load point 0 1 weight 0;point 2 3 weight 0;told; = 2", "kindAt(0) = 3", "kindAt(12) = 3",
            "value(0, 0) = NoSuchElementException", "about(5) = NoSuchElementException", "many(3) = 25", "many(0) = 0");
        // Denominator (x - 1)(x - 2) + x(x - 1) = 2(x - 1)^2, numerator five times that.
        Script.run("nothing at one place", "load point 0 5 weight 1;point 1 5 weight 0;point 2 5 weight 1;told; = 3", "kindAt(1) = 3",
            "value(1, 0) = NoSuchElementException", "value(0, 0) = 5", "many(3) = 1", "many(0) = 24");
        Script.run("a gap beside all", "load point 0 5;point 2 5;told; = 2", "kindAt(1) = 1", "value(1, 0) = 5", "value(1, 1) = 1");
        Script.run("kinds that are none", "load point 0 5; = 1", "many(0) = 25", "many(4) = 0", "many(-1) = 0", "many(-2147483648) = 0");
    }

    private static void met() {
        Script.run("met", "load point 0 0;point 1 2;point 2 5 weight 0;told; = 3", "isMet(0) = true", "isMet(1) = true",
            "isMet(2) = false", "missed() = 1", "isMet(3) = IndexOutOfBoundsException", "isMet(-1) = IndexOutOfBoundsException");
        // With Y 0 and 0 the numerator is 0, so the gap at 2 has the value 0.
        Script.run("met in a gap", "load point 0 0;point 1 0;point 2 0 weight 0;told; = 3", "kindAt(2) = 1", "isMet(2) = true",
            "missed() = 0", "setValue(2, 1) = 0", "isMet(2) = false", "missed() = 1");
        Script.run("not met in nothing", "load point 0 0 weight 0;told; = 1", "isMet(0) = false", "missed() = 1");
        Script.run("fractions are no Y", "load point 0 0;point 1 2;point 2 4 weight 0;told; = 3", "value(2, 0) = 4", "value(2, 1) = 3",
            "isMet(2) = false");
    }

    private static void poles() {
        // The denominators of the three are 2x - 1, 2x - 2 and 3x^2 - 12x + 11.
        Script.run("hidden", "load point 0 1;point 1 3;told; = 2", "hiddenPoles() = 1", "many(2) = 0", "nextPole(-12) = 0",
            "nextPole(0) = 0", "nextPole(1) = NoSuchElementException", "nextPole(12) = NoSuchElementException",
            "nextPole(13) = IllegalArgumentException", "nextPole(-13) = IllegalArgumentException");
        Script.run("open", "load point 0 1;point 2 3;told; = 2", "hiddenPoles() = 0", "many(2) = 1", "nextPole(-12) = 1", "nextPole(1) = 1",
            "nextPole(2) = NoSuchElementException");
        Script.run("two hidden", "load point 1 1;point 2 3;point 3 0;told; = 3", "hiddenPoles() = 2", "nextPole(-12) = 1", "nextPole(2) = 2",
            "nextPole(3) = NoSuchElementException");
        // The denominator a(x - 8) + b(x - 9) has its root at 11.5, at 12, at 12.5, and mirrored at -12.5 and -11.5.
        Script.run("at the end", "load point 9 1 weight -5;point 8 2 weight 7;told; = 2", "hiddenPoles() = 1", "nextPole(-12) = 11",
            "nextPole(12) = NoSuchElementException", "setWeight(0, -3) = -5", "setWeight(1, 4) = 7", "hiddenPoles() = 0",
            "nextPole(-12) = 12", "nextPole(12) = 12", "setWeight(0, -7) = -3", "setWeight(1, 9) = 4", "hiddenPoles() = 0",
            "nextPole(12) = NoSuchElementException", "mirror() = 2", "hiddenPoles() = 0", "setWeight(0, -5) = -7", "setWeight(1, 7) = 9",
            "hiddenPoles() = 1", "nextPole(-12) = -12");
        Script.run("a gap is no pole", "load point 0 5;point 2 5;told; = 2", "nextPole(-12) = NoSuchElementException", "hiddenPoles() = 0");
    }

    private static void extremes() {
        Script.run("a parabola", "load point 0 1;point 1 -1;point 3 1; = 3", "extreme(true) = -12", "extreme(false) = 1");
        Script.run("the same everywhere", "load point 4 -2; = 1", "extreme(true) = -12", "extreme(false) = -12");
        // (2x - 1) / (x - 1), with a pole at 1.
        Script.run("beside a pole", "load point 0 1;point 2 3;told; = 2", "extreme(true) = 2", "extreme(false) = 0");
        // x / (2x - 5) is greatest at 3 and smallest at 2, whichever of them is a gap.
        Script.run("a gap counts", "load point 0 0;point 5 1;point 3 -7 weight 0;told; = 3", "kindAt(3) = 1", "extreme(true) = 3",
            "extreme(false) = 2", "move(2, 2) = 3", "kindAt(2) = 1", "extreme(true) = 3", "extreme(false) = 2");
        Script.run("less than 0", "load point 0 -1;point 9 -4; = 2", "extreme(true) = -12",
            "extreme(false) = 12");
    }

    private static void empty() {
        Script.run("without points", "degreeOf(false) = -1", "coefficient(true, 0) = 0", "kindAt(0) = 3", "value(0, 0) = NoSuchElementException",
            "about(0) = NoSuchElementException", "isMet(0) = IndexOutOfBoundsException", "missed() = 0", "many(3) = 25", "hiddenPoles() = 0",
            "nextPole(-12) = NoSuchElementException", "extreme(true) = NoSuchElementException", "extreme(false) = NoSuchElementException");
    }
}
