/** The section TEXT of the document and promises 1 to 5, a sentence at a time, at its edges. */
public final class TextEdgesTest {
    private static final int NO_ERROR = 0;
    private static final int ILLEGAL = 1;
    private static final int OTHER = 2;
    private static final int RANGE = 3;
    private static final int SAME_X = 4;
    private static final int SIXTH = 5;

    public static void main(String[] args) {
        mostBytes();
        lengthsOfTokens();
        bytesThatAreNoToken();
        asFarAsPossible();
        spaces();
        ranges();
        numbersOfPoints();
        sameX();
        modes();
        firstError();
        tooEarly();
        smallerKind();
        bytesOfFeed();
        lengthsOfLoad();
        latestLoad();
        illegalTextLeavesAll();
        Script.end();
    }

    /** Loads the text on a new object; of a legal one the position is NONE. */
    private static WeightedNodes judge(String text, int kind, int position) {
        WeightedNodes nodes = new WeightedNodes();
        String title = "\"" + text.replace("\n", "\\n") + "\"";
        String answer = Script.loadText(nodes, text);
        Script.due(title + " is illegal", answer.equals("-3"), kind != NO_ERROR);
        Script.due(title + ": errorKind()", nodes.errorKind(), kind);
        Script.due(title + ": errorPosition()", nodes.errorPosition(), kind == NO_ERROR ? -1 : position);
        return nodes;
    }

    private static WeightedNodes legal(String text) {
        return judge(text, NO_ERROR, -1);
    }

    private static void mostBytes() {
        // "The text has at most 400 bytes": the last of them still counts.
        Script.go(legal("told;".repeat(80)), "80 statements of 5 bytes", "mode() = 2");
        Script.go(legal(" ".repeat(378) + "point -9 -20 weight 9;"), "a statement up to byte 399", "points() = 1", "point(0, 2) = 9");
        judge(" ".repeat(399) + "+", ILLEGAL, 399);
        judge(" ".repeat(395) + "point", OTHER, 400);
        judge(" ".repeat(394) + "point\n", OTHER, 400);
        judge("a".repeat(400), ILLEGAL, 0);
        judge("7".repeat(400), ILLEGAL, 0);
        legal(" ".repeat(400));
        legal("");
    }

    private static void lengthsOfTokens() {
        // "words (1 to 8 lower-case letters), numbers (1 to 2 digits)"; longer runs are illegal tokens.
        for (int length = 1; length <= 30; length++) {
            judge("told; " + "q".repeat(length), length <= 8 ? OTHER : ILLEGAL, 6);
            judge("told; " + "1".repeat(length), length <= 2 ? OTHER : ILLEGAL, 6);
            judge("point 3 " + "0".repeat(length) + ";", length <= 2 ? NO_ERROR : ILLEGAL, 8);
            judge("blend " + "0".repeat(length) + ";", length <= 2 ? NO_ERROR : ILLEGAL, 6);
            judge("point 3 4 " + "w".repeat(length) + " 5;", length <= 8 ? OTHER : ILLEGAL, 10);
        }
        for (char letter = 'a'; letter <= 'z'; letter++) {
            judge(String.valueOf(letter), OTHER, 0);
            judge("plai" + letter + ";", letter == 'n' ? NO_ERROR : OTHER, 0);
        }
        for (char digit = '0'; digit <= '9'; digit++) {
            Script.go(legal("point " + digit + " 1" + digit + " weight -0" + digit + ";"), "the digit " + digit,
                "point(0, 0) = " + digit, "point(0, 1) = 1" + digit, "point(0, 2) = " + -(digit - '0'));
        }
    }

    private static void bytesThatAreNoToken() {
        for (int number = 0; number <= 255; number++) {
            char sign = (char) number;
            boolean blank = number == 32 || number == 10;
            boolean letter = sign >= 'a' && sign <= 'z';
            boolean digit = sign >= '0' && sign <= '9';
            boolean token = letter || digit || sign == '-' || sign == ';';
            judge("" + sign, blank ? NO_ERROR : token ? OTHER : ILLEGAL, 0);
            judge("plain;" + sign, blank ? NO_ERROR : token ? OTHER : ILLEGAL, 6);
            judge("plain" + sign + ";", blank ? NO_ERROR : token ? OTHER : ILLEGAL, letter ? 0 : sign == ';' ? 6 : 5);
            boolean between = blank || sign == '-';
            judge("point 1" + sign + "2;", between ? NO_ERROR : digit ? ILLEGAL : token ? OTHER : ILLEGAL, digit ? 6 : 7);
        }
        // Each of these bytes is a token of its own, so the first of two is told.
        judge("told; ++", ILLEGAL, 6);
        judge("told;\n\t+", ILLEGAL, 6);
    }

    private static void asFarAsPossible() {
        // "A token extends as far as possible."
        Script.go(legal("point1-2weight3;blend4;point-4 5;told;"), "no spaces are needed", "points() = 2", "point(0, 0) = 1",
            "point(0, 1) = -2", "point(0, 2) = 3", "point(1, 0) = -4", "point(1, 1) = 5", "mode() = 2", "degree() = 4");
        judge("point 12;", RANGE, 6);
        judge("point 1 222;", ILLEGAL, 8);
        judge("point 1 2 33;", OTHER, 10);
        judge("pointx 1 2;", OTHER, 0);
        judge("toldtold;", OTHER, 0);
        judge("plaintold;", ILLEGAL, 0);
        judge("point 1 2weight3weight4;", OTHER, 16);
        judge("pla in;", OTHER, 0);
        judge("point 1 2 wei ght 3;", OTHER, 10);
    }

    private static void spaces() {
        // "before the first token, between tokens and behind the last token"
        Script.go(legal(" \n  point \n 4\n-\n 5 \n\n weight  - 6\n; \nblend \n 3 ; \n "), "spaces and line feeds", "points() = 1",
            "point(0, 0) = 4", "point(0, 1) = -5", "point(0, 2) = -6", "mode() = 1", "degree() = 3");
        legal("\n");
        legal("told; ");
        legal("told;\n");
        judge("point 1 1 1;", OTHER, 10);
        judge("blend 1 1;", OTHER, 8);
        judge("po int 1 1;", OTHER, 0);
    }

    private static void ranges() {
        for (int number = 0; number <= 99; number++) {
            String digits = String.valueOf(number);
            forms(number, digits);
            if (number < 10) {
                forms(number, "0" + number);
            }
        }
    }

    /** One number in the places of X, Y, W and D, with a minus sign and without. */
    private static void forms(int number, String digits) {
        int x = number <= 9 ? NO_ERROR : RANGE;
        int y = number <= 20 ? NO_ERROR : RANGE;
        int d = number <= 4 ? NO_ERROR : RANGE;
        number("point " + digits + " 3 weight 4;", x, 6, 0, number);
        number("point -" + digits + " 3 weight 4;", x, 7, 0, -number);
        number("point - " + digits + " 3 weight 4;", x, 8, 0, -number);
        number("point 3 " + digits + " weight 4;", y, 8, 1, number);
        number("point 3 -" + digits + ";", y, 9, 1, -number);
        number("point 3 4 weight " + digits + ";", x, 17, 2, number);
        number("point 3 4 weight -" + digits + ";", x, 18, 2, -number);
        WeightedNodes nodes = judge("blend " + digits + ";", d, 6);
        Script.due("blend " + digits + ": degree()", nodes.degree(), d == NO_ERROR ? number : 0);
        judge("blend -" + digits + ";", OTHER, 6);
        judge("blend -" + digits, OTHER, 6);
    }

    private static void number(String text, int kind, int position, int which, int due) {
        WeightedNodes nodes = judge(text, kind, position);
        if (kind == NO_ERROR) {
            Script.due(text + " point(0, " + which + ")", nodes.point(0, which), due);
        } else {
            Script.due(text + " points()", nodes.points(), 0);
        }
    }

    private static void numbersOfPoints() {
        // "There are at most 5 points, numbered from 0"; W is "1 without it".
        String text = "";
        for (int count = 0; count <= 5; count++) {
            WeightedNodes nodes = legal(text);
            Script.due(count + " points", nodes.points(), count);
            for (int k = 0; k < count; k++) {
                Script.go(nodes, "point " + k + " of " + count, "point(" + k + ", 0) = " + (7 - 3 * k), "point(" + k + ", 1) = " + -k,
                    "point(" + k + ", 2) = 1");
            }
            Script.go(nodes, "behind " + count, "point(" + count + ", 0) = IndexOutOfBoundsException");
            text += "point " + (7 - 3 * count) + " " + -count + ";";
        }
        // The text has 6 points now.
        judge(text, SIXTH, text.lastIndexOf("point"));
        judge(text + "point", SIXTH, text.lastIndexOf("point"));
        String five = text.substring(0, text.lastIndexOf("point"));
        judge(five + "blend 2;\n  point", SIXTH, five.length() + 11);
        judge(five + "told;", NO_ERROR, -1);
        // What stood before the text does not count.
        WeightedNodes full = legal(five);
        Script.go(full, "a text after five points", "load point 7 7;point 4 4; = 2", "load " + five + " = 5");
    }

    private static void sameX() {
        int[] xs = {3, 0, -9, 9, -1};
        for (int earlier = 0; earlier < 4; earlier++) {
            for (int later = earlier + 1; later < 5; later++) {
                StringBuilder text = new StringBuilder();
                for (int k = 0; k < later; k++) {
                    text.append("point ").append(xs[k]).append(" 5;");
                }
                int x = xs[earlier];
                judge(text + "point " + (x < 0 ? "-0" + -x : "0" + x) + " 5;", SAME_X, text.length() + (x < 0 ? 7 : 6));
                judge(text + "point " + (x <= 0 ? "- " + -x : "" + x), SAME_X, text.length() + (x <= 0 ? 8 : 6));
                judge(text + "point " + (x == 9 ? "8" : "" + (x + 2)) + " 5;", NO_ERROR, -1);
            }
        }
        // Only an X counts, and only that of a point.
        legal("point 1 2 weight 3;point 2 1 weight 3;point 3 3 weight 3;");
        legal("point 4 2;blend 4;point -4 4;");
        Script.run("the X of the points before the text do not count", "addPoint(1, 0, 1) = 0", "load point 1 5; = 1", "load point 1 6; = 1",
            "point(0, 1) = 6");
    }

    private static void modes() {
        // "it is plain without them, the last one counts"
        Script.go(legal("point 1 2;"), "none", "mode() = 0", "degree() = 0");
        Script.go(legal("told;point 1 2;plain;"), "plain last", "mode() = 0");
        Script.go(legal("plain;told;point 1 2;blend 0;"), "blend last", "mode() = 1", "degree() = 0");
        Script.go(legal("blend 4;plain;told;"), "told last", "mode() = 2", "degree() = 4");
        Script.go(legal("blend 4;blend 1;"), "two degrees", "mode() = 1", "degree() = 1");
        Script.go(legal("blend 1;plain;blend 4;plain;"), "two degrees and plain", "mode() = 0", "degree() = 4");
        Script.go(legal("told;point 1 2;"), "a point behind told", "mode() = 2", "points() = 1");
        Script.go(legal("blend 3;point 1 2;point 0 5 weight 2;"), "points behind blend", "mode() = 1", "degree() = 3", "points() = 2");
        Script.go(legal("told;point 1 2;plain;point 4 5;"), "a point behind plain", "mode() = 0", "points() = 2");
        Script.run("no mode stays from before", "setMode(2, 0) = 0", "load point 1 2; = 1", "mode() = 0", "load blend 3; = 0",
            "load plain; = 0", "mode() = 0", "degree() = 0");
    }

    private static void firstError() {
        // "its first token, from left to right, that cannot be continued to a legal text"
        judge("point 1 2; point 1 99 weight 99; +", SAME_X, 17);
        judge("point 1 21 weight 99; point 1 2", RANGE, 8);
        judge("point 1 2; ; point 1 2", OTHER, 11);
        judge("blend 5; point 99", RANGE, 6);
        judge("; +", OTHER, 0);
        judge("+ ;", ILLEGAL, 0);
        // "a token counts as right even if no legal one can follow it"
        judge("point - told;", OTHER, 8);
        judge("point -;", OTHER, 7);
        judge("point 0 0;point -9 0;point - 9", SAME_X, 29);
        // "of a number that is out of range that of its digits"
        judge("point -10", RANGE, 7);
        judge("point -\n10", RANGE, 8);
        judge("point 1 - 21;", RANGE, 10);
        judge("point 1 1 weight -  10;", RANGE, 20);
    }

    private static void tooEarly() {
        String text = "point -9 20 weight - 8;\nblend 4 ; plain;told;point 1\n-2;";
        String words = "point weight blend plain told";
        for (int length = 0; length <= text.length(); length++) {
            String prefix = text.substring(0, length);
            String last = prefix.substring(Math.max(prefix.lastIndexOf(' '), Math.max(prefix.lastIndexOf(';'), prefix.lastIndexOf('\n'))) + 1);
            boolean cut = !last.isEmpty() && Character.isLetter(last.charAt(0)) && !(" " + words + " ").contains(" " + last + " ");
            boolean ended = prefix.isBlank() || prefix.trim().endsWith(";");
            // A cut word is another one; else the text just ends too early, at its length.
            judge(prefix, ended ? NO_ERROR : OTHER, cut ? length - last.length() : length);
            judge(prefix + "  \n", ended ? NO_ERROR : OTHER, cut ? length - last.length() : length + 3);
        }
        // The length is that of the text, whatever the buffer has behind it.
        WeightedNodes nodes = new WeightedNodes();
        Script.feedText(nodes, "point 1 22 weight 34;plain;");
        Script.go(nodes, "a text shorter than the buffer", "load(9) = -3", "errorKind() = 2", "errorPosition() = 9");
        Script.feedText(nodes, "point 1 22 weight 34;plain;");
        Script.go(nodes, "a token at the end of the text", "load(5) = -3", "errorKind() = 2", "errorPosition() = 5");
    }

    private static void smallerKind() {
        String five = "point 1 0;point 2 0;point 3 0;point 4 0;point 5 0;";
        // 1 before 2, 3, 4 and 5.
        judge("told 100;", ILLEGAL, 5);
        judge("point 010 0;", ILLEGAL, 6);
        judge("point 1 0;point 001 0;", ILLEGAL, 16);
        judge(five + "pointpoint 6 0;", ILLEGAL, 50);
        // 2 before 3, 4 and 5.
        judge("told 99;", OTHER, 5);
        judge("point 1 1 99;", OTHER, 10);
        judge("point 1 0;plain 1;", OTHER, 16);
        judge(five.substring(0, 49) + " point 6 0;", OTHER, 50);
        judge("point 1 0;point 2 0;point 3 0;point 4 0;point 5 0 weight point", OTHER, 57);
        // 3 before 4 can't be: an earlier X is never out of range.
        judge("point 9 0;point 09 0;", SAME_X, 16);
        judge("point 9 0;point 10 0;", RANGE, 16);
    }

    private static void bytesOfFeed() {
        // "the four bytes of a, then of b, c, d and e, the most significant byte of each first"
        for (int place = 0; place < 20; place++) {
            int[] words = {0x20202020, 0x20202020, 0x20202020, 0x20202020, 0x20202020};
            words[place / 4] ^= 0xFF << 24 - 8 * (place % 4);
            WeightedNodes nodes = new WeightedNodes();
            Script.due("bytes after a feed", nodes.feed(words[0], words[1], words[2], words[3], words[4]), 20);
            Script.go(nodes, "byte " + place, "load(" + place + ") = 0", "errorKind() = 0");
            nodes.feed(words[0], words[1], words[2], words[3], words[4]);
            Script.go(nodes, "byte " + place, "load(20) = -3", "errorKind() = 1", "errorPosition() = " + place);
        }
        // "FULL if there would be more than 400 (nothing is appended)"
        WeightedNodes full = new WeightedNodes();
        String text = " ".repeat(381) + "point 2 3;told;\n\n\n\n";
        Script.due("400 bytes", Script.feedText(full, text), 400);
        Script.go(full, "a full buffer", "feed(724249387, 724249387, 724249387, 724249387, 724249387) = -2",
            "feed(-1, -1, -1, -1, -1) = -2", "load(401) = IllegalArgumentException", "load(420) = IllegalArgumentException",
            "feed(-1, -1, -1, -1, -1) = -2", "load(400) = 1", "point(0, 1) = 3", "mode() = 2", "load(1) = IllegalArgumentException",
            "feed(-1, -1, -1, -1, -1) = 20", "load(20) = -3", "errorKind() = 1", "errorPosition() = 0");
        WeightedNodes nearly = new WeightedNodes();
        Script.due("380 bytes", Script.feedText(nearly, " ".repeat(380)), 380);
        Script.go(nearly, "the last 20 bytes", "feed(538976288, 538976288, 538976288, 538976288, 538976299) = 400",
            "feed(538976288, 538976288, 538976288, 538976288, 538976288) = -2", "load(400) = -3", "errorPosition() = 399");
    }

    private static void lengthsOfLoad() {
        // "0 to the number of bytes in the buffer"; out of range "the buffer keeps its bytes"
        Script.run("an empty buffer", "load(1) = IllegalArgumentException", "load(-1) = IllegalArgumentException",
            "load(-2147483648) = IllegalArgumentException", "load(2147483647) = IllegalArgumentException", "load(0) = 0", "load(0) = 0");
        WeightedNodes nodes = new WeightedNodes();
        Script.feedText(nodes, "point 1 2;point 3 4;");
        Script.feedText(nodes, "point 5 6;");
        Script.go(nodes, "40 bytes", "load(41) = IllegalArgumentException", "load(-1) = IllegalArgumentException",
            "load(2147483647) = IllegalArgumentException", "load(-2147483648) = IllegalArgumentException", "points() = 0", "load(40) = 3",
            "load(1) = IllegalArgumentException", "points() = 3");
        Script.feedText(nodes, "point 1 2;point 3 4;");
        Script.go(nodes, "the first bytes alone", "load(10) = 1", "load(10) = IllegalArgumentException", "points() = 1");
        Script.feedText(nodes, "point 1 2;point 3 4;");
        Script.go(nodes, "no byte of many", "load(0) = 0", "points() = 0", "load(1) = IllegalArgumentException");
        Script.feedText(nodes, "point 1 2;nonsense 4");
        Script.go(nodes, "emptied by an illegal text, too", "load(20) = -3", "load(1) = IllegalArgumentException", "load(0) = 0");
    }

    private static void latestLoad() {
        // "of the latest load() that did not throw an exception; 0 if it had none or there was no such load()"
        Script.run("no such load", "errorKind() = 0", "errorPosition() = -1", "load(1) = IllegalArgumentException", "errorKind() = 0",
            "errorPosition() = -1");
        Script.run("the latest", "load  + = -3", "errorKind() = 1", "errorPosition() = 1", "load(1) = IllegalArgumentException",
            "errorKind() = 1", "errorPosition() = 1", "mirror() = 0", "undo() = 0", "errorKind() = 1", "errorPosition() = 1", "load told = -3",
            "errorKind() = 2", "errorPosition() = 4", "load told; = 0", "errorKind() = 0", "errorPosition() = -1",
            "load(-1) = IllegalArgumentException", "errorKind() = 0", "load point 1 21; = -3", "errorKind() = 3", "errorPosition() = 8",
            "load(0) = 0", "errorKind() = 0", "errorPosition() = -1");
    }

    private static void illegalTextLeavesAll() {
        // "everything but the buffer and the error stays": wherever the error stands.
        String[] wrongs = {"x", "told;x", "blend 4;point 0 0;point 1 1;+", "plain;point 9 9", "point 1 1;point 1 1;",
            "point 1 0;point 2 0;point 3 0;point 4 0;point 5 0;point", "blend 2;point 5 5;blend 5;"};
        for (String wrong : wrongs) {
            Script.run("left by " + wrong, "load point 1 2 weight 3;point -4 5;point 7 -8 weight -9;told; = 3", "setMode(1, 3) = 2",
                "removePoint(1) = 2", "shows write(false) = -10x+22", "load " + wrong + " = -3", "points() = 2", "mode() = 1", "degree() = 3",
                "point(0, 0) = 1", "point(0, 1) = 2", "point(0, 2) = 3", "point(1, 0) = 7", "point(1, 1) = -8", "point(1, 2) = -9",
                "weight(0) = -1", "weight(1) = 1", "written(0) = -", "written(6) = 2", "written(7) = IndexOutOfBoundsException", "undo() = 1",
                "points() = 3", "undo() = 0", "mode() = 2", "degree() = 0", "weight(0) = 3", "undo() = -1");
        }
    }
}
