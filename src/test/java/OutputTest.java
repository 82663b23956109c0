/** Promises 42 to 44: what is written. */
public final class OutputTest {
    public static void main(String[] args) {
        polynomials();
        values();
        written();
        Script.end();
    }

    private static void polynomials() {
        Script.run("polynomials", "load point 0 1;point 1 3;point 3 1;told; = 3", "shows write(true) = 3x^2-8x+3",
            "shows write(false) = 5x^2-14x+3", "write(true) = 9");
        Script.run("ones", "load point 0 1;point 1 0;point -1 0; = 3", "shows write(false) = -2x^2+2", "shows write(true) = 2",
            "setMode(2, 0) = 0", "shows write(false) = x^2-1", "shows write(true) = 3x^2-1", "setWeight(0, -1) = 1",
            "shows write(false) = -x^2+1", "shows write(true) = x^2+1");
        Script.run("the example", "load point 1 0;point 2 0 weight 9;point 0 1 weight -7;told; = 3", "shows write(true) = 3x^2+10x-14",
            "load point 0 -1 weight 1;point 1 -3 weight -1; point -1 -5 weight -1;told; = 3", "shows write(true) = -x^2-1");
        Script.run("x alone", "load point 0 0;point 1 1; = 2", "shows write(false) = x", "shows write(true) = 1", "setValue(1, -1) = 1",
            "shows write(false) = -x", "setValue(0, 1) = 0", "shows write(false) = -2x+1");
        Script.run("all powers", "load point 0 1;point 1 -1;point 2 3;point 3 4;point 4 5;told; = 5",
            "shows write(true) = 5x^4-40x^3+105x^2-100x+24", "shows write(false) = 12x^4-83x^3+177x^2-124x+24", "mirror() = 5",
            "shows write(true) = 5x^4+40x^3+105x^2+100x+24");
        Script.run("0", "shows write(true) = 0", "shows write(false) = 0", "addPoint(1, 0, 1) = 0", "shows write(false) = 0",
            "shows write(true) = 1");
    }

    private static void values() {
        Script.run("nothing", "shows writeValues() = ? ? ? ? ? ? ?");
        Script.run("whole numbers", "load point 0 1;point 1 3;point 3 1; = 3", "shows writeValues() = -17 -9 -3 1 3 3 1");
        // (4x - 2) / (2x - 2)
        Script.run("a pole", "load point 0 1;point 2 3;told; = 2", "shows writeValues() = 7/4 5/3 3/2 1 ! 3 5/2");
        Script.run("a gap", "load point 0 0;point 1 2;point 2 5 weight 0;told; = 3", "shows writeValues() = 6/7 4/5 2/3 0 2 4/3 6/5");
        Script.run("fractions less than 0", "load point 0 0;point 3 -1; = 2", "shows writeValues() = 1 2/3 1/3 0 -1/3 -2/3 -1");
        Script.run("nothing at one place", "load point 0 5 weight 1;point 1 5 weight 0;point 2 5 weight 1;told; = 3",
            "shows writeValues() = 5 5 5 5 ? 5 5");
    }

    private static void written() {
        Script.run("characters", "written(0) = IndexOutOfBoundsException", "addPoint(0, 7, 1) = 0", "written(0) = IndexOutOfBoundsException",
            "write(false) = 1", "written(0) = 7", "written(1) = IndexOutOfBoundsException", "written(-1) = IndexOutOfBoundsException",
            "written(-2147483648) = IndexOutOfBoundsException", "written(2147483647) = IndexOutOfBoundsException", "writeValues() = 13",
            "written(12) = 7", "written(13) = IndexOutOfBoundsException", "write(true) = 1", "written(0) = 1",
            "written(1) = IndexOutOfBoundsException", "removePoint(0) = 0", "written(0) = 1", "load(0) = 0", "written(0) = 1");
    }
}
