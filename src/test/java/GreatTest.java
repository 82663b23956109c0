/**
 * Numbers that grow as far as the document lets them: the greatest weights, coefficients, values, slopes and
 * divided differences of all sets of X, found by trying them all; and the last of the 512 calls.
 */
public final class GreatTest {
    public static void main(String[] args) {
        weightsAndCoefficients();
        values();
        denominators();
        slopes();
        denominatorsOfSlopes();
        told();
        differences();
        nearTies();
        lastCalls();
        Script.end();
    }

    private static void weightsAndCoefficients() {
        // The greatest weight and the greatest coefficients; those of the numerator are no int.
        Script.run("coefficients", "load point -9 -20;point -8 20;point -6 -20;point 5 -20;point 9 20;blend 3; = 5", "weight(0) = -24310",
            "weight(1) = 41580", "weight(2) = -18564", "weight(3) = 2295", "weight(4) = -1001", "weightSum() = 0", "isAlternating() = true",
            "coefficient(false, 0) = 4495629600", "coefficient(false, 1) = -117181680", "coefficient(false, 2) = -186977560",
            "coefficient(false, 3) = 942480", "coefficient(false, 4) = 1623160", "coefficient(true, 0) = -18378360",
            "coefficient(true, 1) = 0", "degreeOf(false) = 4", "degreeOf(true) = 0", "value(12, 0) = -8100", "value(12, 1) = 13",
            "value(-12, 0) = -23356", "value(-12, 1) = 39", "value(8, 0) = 8132", "value(8, 1) = 117", "extreme(true) = 8", "extreme(false) = 12",
            "steepest() = 0", "bestPlace(1, 12) = -5", "bestPlace(4, -12) = -7", "valueIf(4, 1, 12, 0) = -75860", "valueIf(4, 1, 12, 1) = 13",
            "valueIf(3, -3, -11, 0) = -10700", "valueWithout(4, 12, 0) = 52660", "valueWithout(4, 12, 1) = 13", "missed() = 0",
            "shows write(false) = 1623160x^4+942480x^3-186977560x^2-117181680x+4495629600", "shows write(true) = -18378360",
            "shows writeValues() = -6940/39 -25468/117 -28180/117 -3180/13 -8900/39 -22580/117 -1852/13", "about(12) = " + (-8100.0 / 13.0));
        Script.run("the greatest coefficient of the denominator", "load point -9 0;point -8 0;point 2 0;point 5 0;point 8 0;blend 3; = 5",
            "weight(0) = -9360", "weight(1) = 11781", "weight(2) = -12376", "weight(3) = 14960", "weight(4) = -5005",
            "coefficient(true, 0) = -24504480", "shows write(true) = -24504480", "row(0, 0, 0) = -3197", "row(0, 0, 1) = 2618",
            "row(1, 0, 0) = -1040", "row(1, 0, 1) = 1309", "many(0) = 25");
    }

    private static void values() {
        Script.run("the greatest value", "load point -6 18;point 2 -19;point 5 20;point 6 -20;point 7 20;blend 4; = 5",
            "value(-12, 0) = 145588109", "value(-12, 1) = 5720", "about(-12) = " + (145588109.0 / 5720.0), "value(12, 0) = 6379881",
            "value(12, 1) = 1144", "plainValue(-12, 0) = 145588109", "plainValue(-12, 1) = 5720", "extreme(true) = -12", "extreme(false) = -3",
            "steepest() = 1", "slope(0, 0) = -18738823", "slope(0, 1) = 17160", "bestPlace(0, 12) = 4", "bestPlace(4, -12) = 7",
            "valueIf(4, -3, -11, 0) = -490712", "valueIf(4, -3, -11, 1) = 297", "valueWithout(0, 12, 0) = 7313", "valueWithout(0, 12, 1) = 2",
            "shows write(false) = 62767x^4-524324x^3-1437007x^2+18658304x-29682420",
            "shows writeValues() = -330623/286 -703627/715 -204961/286 -494707/1144 -107689/572 -19 178617/2860", "mirror() = 5",
            "value(12, 0) = 145588109", "extreme(true) = 12", "extreme(false) = 3");
    }

    private static void denominators() {
        Script.run("the greatest denominator of a value", "load point -9 -14;point -7 3;point -4 7;point 7 -3;point 9 -12;blend 2; = 5",
            "value(-10, 0) = -43192057", "value(-10, 1) = 1536535", "about(-10) = " + (-43192057.0 / 1536535.0), "value(10, 0) = -4509451",
            "value(10, 1) = 219505", "row(2, 2, 0) = 191992", "row(2, 2, 1) = 478335", "slope(2, 0) = -5057951", "slope(2, 1) = 3348345",
            "extreme(true) = -5", "extreme(false) = -12", "steepest() = 0", "divided(0, 4, 0) = -6953", "divided(0, 4, 1) = 1441440",
            "shows write(false) = -46528x^4+132990x^3+2535130x^2-9811230x-12507642", "shows write(true) = 30030x^2+6216210",
            "shows writeValues() = 14992/3003 6687/2743 -710/13013 -33089/16445 -41036/13013 -9381/2743 -3830/1287",
            "setMode(1, 2) = 1", "bestPlace(1, 12) = 6", "bestPlace(4, 12) = -8");
        Script.run("the greatest denominator of a row", "load point -9 0;point -7 0;point -2 0;point 7 0;point 9 0;blend 2; = 5",
            "row(2, 2, 1) = 731115");
    }

    private static void slopes() {
        Script.run("the greatest slope", "load point -9 -18;point 2 20;point 4 -19;point 8 20;point 9 -20;blend 4; = 5",
            "slope(0, 0) = 1278898717", "slope(0, 1) = 3063060", "slope(1, 0) = -43860983", "slope(1, 1) = 1021020", "slope(4, 0) = -200375897",
            "slope(4, 1) = 3063060", "steepest() = 0", "extreme(true) = -5", "extreme(false) = -12", "value(-12, 0) = -16321979",
            "value(-12, 1) = 7293", "row(0, 0, 0) = -12349", "row(0, 0, 1) = 43758", "divided(0, 4, 0) = -853739", "divided(0, 4, 1) = 6126120",
            "coefficient(false, 0) = 938957904", "coefficient(false, 1) = -540282430", "bestPlace(0, 12) = 3", "bestPlace(1, -12) = 5",
            "shows writeValues() = 304751/663 235613/663 4244024/17017 13041082/85085 548342/7293 20 -550507/51051", "mirror() = 5",
            "slope(0, 0) = -1278898717", "steepest() = 4", "slope(4, 0) = 200375897");
    }

    private static void denominatorsOfSlopes() {
        Script.run("the greatest denominator of a slope", "load point -9 -14;point -4 3;point 3 7;point 7 -3;point 9 -12;blend 4; = 5",
            "slope(1, 0) = 39536867", "slope(1, 1) = 17297280", "slope(0, 0) = 3237763", "slope(0, 1) = 720720", "steepest() = 0",
            "divided(0, 4, 0) = -1387", "divided(0, 4, 1) = 17297280", "removePoint(0) = 4", "undo() = 0", "slope(1, 1) = 17297280");
    }

    private static void told() {
        Script.run("the greatest told weights", "load point -9 20 weight 9;point 9 -20 weight -9;point 0 19 weight 8;point -8 -19 weight -7;"
            + "point 8 18 weight 9;told; = 5", "weight(1) = -9", "coefficient(false, 0) = 787968", "coefficient(true, 0) = 41472",
            "coefficient(false, 2) = -68975", "extreme(true) = 6", "extreme(false) = 12", "slope(4, 0) = -88061", "slope(4, 1) = 2448",
            "steepest() = 2", "slope(2, 0) = -29", "slope(2, 1) = 64", "plainValue(12, 0) = -251761", "plainValue(12, 1) = 1224",
            "plainValue(-12, 0) = 307187", "bestPlace(0, 12) = -7", "bestPlace(4, -12) = 8", "valueIf(4, 1, 12, 0) = -474083",
            "valueIf(4, 1, 12, 1) = 6637", "divided(0, 4, 0) = 727", "divided(0, 4, 1) = 176256",
            "shows write(false) = 807x^4+232x^3-68975x^2-18792x+787968", "shows write(true) = 10x^4-34x^3-1322x^2+41472");
    }

    private static void differences() {
        // X and Y as far apart as they can be, and as near.
        Script.run("Y far apart, X near", "load point 0 -20;point 1 20;point -1 20;point 2 -20;point -2 -20; = 5", "divided(0, 1, 0) = 40",
            "divided(0, 2, 0) = 40", "divided(0, 1, 1) = 1", "divided(1, 3, 0) = -40", "divided(1, 3, 1) = 3", "divided(0, 4, 0) = -40",
            "divided(0, 4, 1) = 3", "value(12, 0) = -268820", "value(12, 1) = 1", "extreme(false) = -12");
    }

    private static void nearTies() {
        // The two greatest or smallest values differ by less than a millionth: they must be held exactly.
        Script.run("the smallest of two", "load point -5 -13;point 0 -16;point 2 -9;point 4 8;point 5 -5;blend 0; = 5",
            "value(11, 0) = -25881", "value(11, 1) = 1181", "value(12, 0) = -29212", "value(12, 1) = 1333", "extreme(false) = 11",
            "mirror() = 5", "extreme(false) = -11");
        Script.run("the smallest of three", "load point -8 -12;point -5 8;point -4 -14;point -1 -4;point 0 -17;blend 0; = 5",
            "value(9, 0) = -267539", "value(9, 1) = 5251", "value(10, 0) = -24507", "value(10, 1) = 481", "extreme(false) = 9", "mirror() = 5",
            "extreme(false) = -9");
        Script.run("the greatest of two", "load point -4 8;point -3 -11;point -1 -1;point 1 -18;point 2 20;blend 0; = 5",
            "value(9, 0) = 71408", "value(9, 1) = 1217", "value(10, 0) = 419940", "value(10, 1) = 7157", "extreme(true) = 9", "mirror() = 5",
            "extreme(true) = -9");
        Script.run("the steepest of two", "load point -3 -2;point -1 -19;point 4 -5;point 5 12;point 8 19;blend 3; = 5",
            "slope(2, 0) = 345017", "slope(2, 1) = 20790", "slope(3, 0) = 230011", "slope(3, 1) = 13860", "steepest() = 2");
    }

    private static void lastCalls() {
        // "An object is used for at most 512 calls": the last of them still answers as the document says.
        WeightedNodes nodes = new WeightedNodes();
        nodes.addPoint(0, 0, 1);
        for (int call = 2; call <= 511; call++) {
            nodes.setValue(0, call % 41 - 20);
        }
        Script.due("undo as the call 512", nodes.undo(), 9);
        nodes = new WeightedNodes();
        for (int call = 1; call <= 511; call++) {
            Script.due("feed as the call " + call, nodes.feed(0x20202020, 0x20202020, 0x20202020, 0x20202020, 0x2020202b),
                call <= 20 ? 20 * call : -2);
        }
        Script.due("load as the call 512", nodes.load(399), -3);
        Script.due("then errorPosition", nodes.errorPosition(), 19);
        nodes = new WeightedNodes();
        for (int call = 1; call <= 511; call += 2) {
            // "poin" "t 1 " "2;pl" "ain;" and four spaces.
            Script.due("feed as the call " + call, nodes.feed(1886349678, 1948266784, 842756204, 1634299451, 538976288), 20);
            Script.due("load as the call " + (call + 1), nodes.load(call % 4 == 1 ? 16 : 15), call % 4 == 1 ? 1 : -3);
        }
        nodes = new WeightedNodes();
        for (int call = 1; call <= 256; call++) {
            Script.due("writeValues", nodes.writeValues(), 13);
            Script.due("written", nodes.written(call % 13), call % 13 % 2 == 0 ? '?' : ' ');
        }
        nodes = new WeightedNodes();
        nodes.addPoint(-9, 20, 1);
        nodes.addPoint(9, -20, 1);
        for (int call = 3; call <= 512; call++) {
            Script.due("bestPlace as the call " + call, nodes.bestPlace(0, 12), -9);
        }
    }
}
