import java.util.NoSuchElementException;

/** Interpolation through points by weights, reckoned exactly; ../shared/DOC.md says each promise. */
public final class WeightedNodes {
    public static final int NONE = -1;
    public static final int FULL = -2;
    public static final int BAD_TEXT = -3;

    private static final int MOST_POINTS = 5;
    private static final int MOST_BYTES = 400;
    private static final int MOST_EDITS = 10;
    // Seven values of two numbers each, with 19 digits, a sign and a mark apiece, stay below this.
    private static final int MOST_SIGNS = 320;

    private static final int X_END = 9;
    private static final int Y_END = 20;
    private static final int W_END = 9;
    private static final int DEGREE_END = 4;
    private static final int ASK_END = 12;
    private static final int SHIFT_END = 18;
    private static final int SHOW_END = 3;

    private static final int PLAIN = 0;
    private static final int BLENDED = 1;
    private static final int TOLD = 2;

    private static final int VALUE = 0;
    private static final int GAP = 1;
    private static final int POLE = 2;
    private static final int NOTHING = 3;

    private static final int WHICH_X = 0;
    private static final int WHICH_Y = 1;
    private static final int WHICH_W = 2;
    private static final int WHICH_PLACE = 3;

    private final Text text = new Text();
    private final Curve present = new Curve();
    // What would be, and what a text says before it is known to be legal.
    private final Curve trial = new Curve();
    private final History history = new History();
    private final Output output = new Output();
    // Made once and used by every call, since all that a run makes is counted.
    private final Fraction answer = new Fraction();
    private final Fraction best = new Fraction();

    public WeightedNodes() {
    }

    // ---- text

    public int feed(int a, int b, int c, int d, int e) {
        if (!text.hasRoomFor(20)) {
            return FULL;
        }
        text.append(a);
        text.append(b);
        text.append(c);
        text.append(d);
        text.append(e);
        return text.filled();
    }

    public int load(int length) throws IllegalArgumentException {
        needBetween(length, 0, text.filled());
        boolean legal = text.read(length, trial.nodes);
        text.clear();
        if (!legal) {
            return BAD_TEXT;
        }
        present.nodes.copyFrom(trial.nodes);
        present.reckon();
        history.clear();
        return present.nodes.size();
    }

    public int errorKind() {
        return text.faultKind();
    }

    public int errorPosition() {
        return text.faultPosition();
    }

    // ---- what was told

    public int points() {
        return present.nodes.size();
    }

    public int mode() {
        return present.nodes.mode;
    }

    public int degree() {
        return present.nodes.degree;
    }

    public int point(int point, int which) throws IndexOutOfBoundsException, IllegalArgumentException {
        needPoint(point);
        needBetween(which, WHICH_X, WHICH_PLACE);
        switch (which) {
            case WHICH_X:
                return present.nodes.xOf(point);
            case WHICH_Y:
                return present.nodes.yOf(point);
            case WHICH_W:
                return present.nodes.wOf(point);
            default:
                return present.nodes.placeOf(point);
        }
    }

    public int pointAt(int x) throws IllegalArgumentException, NoSuchElementException {
        needWithin(x, ASK_END);
        int found = present.nodes.find(x);
        if (found == NONE) {
            throw new NoSuchElementException("no point has this X");
        }
        return found;
    }

    // ---- weights

    public long weight(int point) throws IndexOutOfBoundsException {
        needPoint(point);
        return present.weightOf(point);
    }

    public boolean isAlternating() {
        return present.alternates();
    }

    public long weightSum() {
        long sum = 0;
        for (int k = 0; k < present.nodes.size(); k++) {
            sum += present.weightOf(k);
        }
        return sum;
    }

    // ---- polynomials

    public int degreeOf(boolean denominator) {
        for (int power = DEGREE_END; power >= 0; power--) {
            if (present.factor(denominator, power) != 0) {
                return power;
            }
        }
        return NONE;
    }

    public long coefficient(boolean denominator, int power) throws IllegalArgumentException {
        needBetween(power, 0, DEGREE_END);
        return present.factor(denominator, power);
    }

    public int kindAt(int x) throws IllegalArgumentException {
        needWithin(x, ASK_END);
        return present.kindOf(x);
    }

    public long value(int x, int what) throws IllegalArgumentException, NoSuchElementException {
        needWithin(x, ASK_END);
        needPart(what);
        needValue(present, x);
        return answer.part(what);
    }

    public double about(int x) throws IllegalArgumentException, NoSuchElementException {
        needWithin(x, ASK_END);
        needValue(present, x);
        double top = (double) answer.part(0);
        double bottom = (double) answer.part(1);
        return bottom == 0.0 ? 0.0 : top / bottom;
    }

    public boolean isMet(int point) throws IndexOutOfBoundsException {
        needPoint(point);
        return meets(point);
    }

    public int missed() {
        int count = 0;
        for (int k = 0; k < present.nodes.size(); k++) {
            if (!meets(k)) {
                count++;
            }
        }
        return count;
    }

    // ---- poles

    public int many(int kind) {
        int count = 0;
        for (int x = -ASK_END; x <= ASK_END; x++) {
            if (present.kindOf(x) == kind) {
                count++;
            }
        }
        return count;
    }

    public int hiddenPoles() {
        int count = 0;
        for (int x = -ASK_END; x < ASK_END; x++) {
            if (present.hidesPoleBehind(x)) {
                count++;
            }
        }
        return count;
    }

    public int nextPole(int from) throws IllegalArgumentException, NoSuchElementException {
        needWithin(from, ASK_END);
        for (int x = from; x <= ASK_END; x++) {
            if (present.kindOf(x) == POLE || (x < ASK_END && present.hidesPoleBehind(x))) {
                return x;
            }
        }
        throw new NoSuchElementException("no pole from there on");
    }

    public int extreme(boolean greatest) throws NoSuchElementException {
        boolean found = false;
        int place = 0;
        for (int x = -ASK_END; x <= ASK_END; x++) {
            if (present.putValue(x, answer)) {
                int order = answer.compareWith(best);
                if (!found || (greatest ? order > 0 : order < 0)) {
                    best.copyFrom(answer);
                    place = x;
                    found = true;
                }
            }
        }
        if (!found) {
            throw new NoSuchElementException("there is no value");
        }
        return place;
    }

    // ---- derivatives

    public long row(int point, int other, int what)
            throws IndexOutOfBoundsException, IllegalArgumentException, IllegalStateException {
        needPoint(point);
        needPoint(other);
        needPart(what);
        needWeight(point);
        present.putRow(point, other, answer);
        return answer.part(what);
    }

    public long slope(int point, int what)
            throws IndexOutOfBoundsException, IllegalArgumentException, IllegalStateException {
        needPoint(point);
        needPart(what);
        needWeight(point);
        present.putSlope(point, answer);
        return answer.part(what);
    }

    public int steepest() throws NoSuchElementException {
        int found = NONE;
        for (int k = 0; k < present.nodes.size(); k++) {
            if (present.weightOf(k) != 0) {
                present.putSlope(k, answer);
                if (found == NONE || answer.compareWith(best) > 0) {
                    best.copyFrom(answer);
                    found = k;
                }
            }
        }
        if (found == NONE) {
            throw new NoSuchElementException("no point has a weight other than 0");
        }
        return found;
    }

    // ---- divided differences

    public long divided(int first, int last, int what)
            throws IndexOutOfBoundsException, IllegalArgumentException {
        needPoint(first);
        needPoint(last);
        needPart(what);
        needBetween(first, 0, last);
        present.nodes.putDivided(first, last, answer);
        return answer.part(what);
    }

    public long plainValue(int x, int what) throws IllegalArgumentException, NoSuchElementException {
        needWithin(x, ASK_END);
        needPart(what);
        trial.nodes.copyFrom(present.nodes);
        trial.nodes.mode = PLAIN;
        trial.reckon();
        needValue(trial, x);
        return answer.part(what);
    }

    // ---- what would be; nothing changes

    public long valueIf(int point, int to, int x, int what)
            throws IndexOutOfBoundsException, IllegalArgumentException, IllegalStateException,
            NoSuchElementException {
        needPoint(point);
        needWithin(to, X_END);
        needWithin(x, ASK_END);
        needPart(what);
        needFree(point, to);
        tryPlace(point, to);
        needValue(trial, x);
        return answer.part(what);
    }

    public long valueWithout(int point, int x, int what)
            throws IndexOutOfBoundsException, IllegalArgumentException, NoSuchElementException {
        needPoint(point);
        needWithin(x, ASK_END);
        needPart(what);
        trial.nodes.copyFrom(present.nodes);
        trial.nodes.drop(point);
        trial.reckon();
        needValue(trial, x);
        return answer.part(what);
    }

    public int bestPlace(int point, int x)
            throws IndexOutOfBoundsException, IllegalArgumentException, NoSuchElementException {
        needPoint(point);
        needWithin(x, ASK_END);
        boolean found = false;
        int place = 0;
        for (int to = -X_END; to <= X_END; to++) {
            if (present.nodes.isFreeFor(point, to)) {
                tryPlace(point, to);
                if (trial.putValue(x, answer) && (!found || answer.compareWith(best) > 0)) {
                    best.copyFrom(answer);
                    place = to;
                    found = true;
                }
            }
        }
        if (!found) {
            throw new NoSuchElementException("no place gives a value");
        }
        return place;
    }

    // ---- edits

    public int move(int point, int to)
            throws IndexOutOfBoundsException, IllegalArgumentException, IllegalStateException {
        needPoint(point);
        needWithin(to, X_END);
        needFree(point, to);
        int before = present.nodes.xOf(point);
        history.remember(present.nodes);
        present.nodes.putX(point, to);
        present.reckon();
        return before;
    }

    public int setValue(int point, int y) throws IndexOutOfBoundsException, IllegalArgumentException {
        needPoint(point);
        needWithin(y, Y_END);
        int before = present.nodes.yOf(point);
        history.remember(present.nodes);
        present.nodes.putY(point, y);
        present.reckon();
        return before;
    }

    public int setWeight(int point, int w) throws IndexOutOfBoundsException, IllegalArgumentException {
        needPoint(point);
        needWithin(w, W_END);
        int before = present.nodes.wOf(point);
        history.remember(present.nodes);
        present.nodes.putW(point, w);
        present.reckon();
        return before;
    }

    public int addPoint(int at, int y, int w) throws IllegalArgumentException, IllegalStateException {
        needWithin(at, X_END);
        needWithin(y, Y_END);
        needWithin(w, W_END);
        needFree(NONE, at);
        if (present.nodes.isFull()) {
            throw new IllegalStateException("there are as many points as there may be");
        }
        history.remember(present.nodes);
        present.nodes.append(at, y, w);
        present.reckon();
        return present.nodes.size() - 1;
    }

    public int removePoint(int point) throws IndexOutOfBoundsException {
        needPoint(point);
        history.remember(present.nodes);
        present.nodes.drop(point);
        present.reckon();
        return present.nodes.size();
    }

    public int setMode(int mode, int degree) throws IllegalArgumentException {
        needBetween(mode, PLAIN, TOLD);
        needBetween(degree, 0, DEGREE_END);
        int before = present.nodes.mode;
        history.remember(present.nodes);
        present.nodes.mode = mode;
        if (mode == BLENDED) {
            present.nodes.degree = degree;
        }
        present.reckon();
        return before;
    }

    public int shift(int by) throws IllegalArgumentException, IllegalStateException {
        needWithin(by, SHIFT_END);
        if (!present.nodes.allowsShift(by)) {
            throw new IllegalStateException("an X would be out of range");
        }
        history.remember(present.nodes);
        for (int k = 0; k < present.nodes.size(); k++) {
            present.nodes.putX(k, present.nodes.xOf(k) + by);
        }
        present.reckon();
        return present.nodes.size();
    }

    public int mirror() {
        history.remember(present.nodes);
        for (int k = 0; k < present.nodes.size(); k++) {
            present.nodes.putX(k, -present.nodes.xOf(k));
        }
        present.reckon();
        return present.nodes.size();
    }

    public int undo() {
        if (!history.recall(present.nodes)) {
            return NONE;
        }
        present.reckon();
        return history.size();
    }

    // ---- output

    public int write(boolean denominator) {
        output.clear();
        for (int power = DEGREE_END; power >= 0; power--) {
            output.putTerm(present.factor(denominator, power), power);
        }
        if (output.size() == 0) {
            output.put('0');
        }
        return output.size();
    }

    public int writeValues() {
        output.clear();
        for (int x = -SHOW_END; x <= SHOW_END; x++) {
            if (x > -SHOW_END) {
                output.put(' ');
            }
            if (present.putValue(x, answer)) {
                output.putFraction(answer);
            } else {
                output.put(present.kindOf(x) == POLE ? '!' : '?');
            }
        }
        return output.size();
    }

    public char written(int k) throws IndexOutOfBoundsException {
        if (k < 0 || k >= output.size()) {
            throw new IndexOutOfBoundsException("no such character");
        }
        return output.signAt(k);
    }

    // ---- what the methods of the face share

    private void needPoint(int point) {
        if (!present.nodes.has(point)) {
            throw new IndexOutOfBoundsException("no such point");
        }
    }

    private static void needBetween(int number, int first, int last) {
        if (number < first || number > last) {
            throw new IllegalArgumentException("a parameter is out of its range");
        }
    }

    private static void needWithin(int number, int end) {
        needBetween(number, -end, end);
    }

    private static void needPart(int what) {
        needBetween(what, 0, 1);
    }

    private void needFree(int point, int x) {
        if (!present.nodes.isFreeFor(point, x)) {
            throw new IllegalStateException("another point has this X");
        }
    }

    private void needWeight(int point) {
        if (present.weightOf(point) == 0) {
            throw new IllegalStateException("the weight of the point is 0");
        }
    }

    private void needValue(Curve curve, int x) {
        if (!curve.putValue(x, answer)) {
            throw new NoSuchElementException("there is no value");
        }
    }

    private boolean meets(int point) {
        return present.putValue(present.nodes.xOf(point), answer)
                && answer.part(1) == 1 && answer.part(0) == present.nodes.yOf(point);
    }

    private void tryPlace(int point, int to) {
        trial.nodes.copyFrom(present.nodes);
        trial.nodes.putX(point, to);
        trial.reckon();
    }

    /** A fraction in lowest terms whose denominator is greater than 0. */
    private static final class Fraction {
        // Euclid's steps on two longs are fewer than this.
        private static final int MOST_STEPS = 200;

        private long top = 0;
        private long bottom = 1;

        void put(long newTop, long newBottom) {
            long shared = divisor(newTop, newBottom);
            if (newBottom == 0 || shared == 0) {
                top = 0;
                bottom = 1;
                return;
            }
            long scale = newBottom < 0 ? -shared : shared;
            top = newTop / scale;
            bottom = newBottom / scale;
        }

        void add(long moreTop, long moreBottom) {
            long shared = divisor(bottom, moreBottom);
            if (moreBottom == 0 || shared == 0) {
                return;
            }
            long times = moreBottom / shared;
            put(top * times + moreTop * (bottom / shared), bottom * times);
        }

        void copyFrom(Fraction other) {
            top = other.top;
            bottom = other.bottom;
        }

        long part(int what) {
            return what == 0 ? top : bottom;
        }

        /** The tops stay below 3 * 10^10 and the bottoms below 3 * 10^7, so the products fit. */
        int compareWith(Fraction other) {
            return Long.compare(top * other.bottom, other.top * bottom);
        }

        /** The greatest common divisor; 0 if both are 0. */
        static long divisor(long first, long second) {
            long a = Math.abs(first);
            long b = Math.abs(second);
            for (int step = 0; step < MOST_STEPS && b != 0; step++) {
                long rest = a % b;
                a = b;
                b = rest;
            }
            return a;
        }
    }

    /** The points, the mode and the degree: all that a text defines and an edit changes. */
    private static final class Nodes {
        private final int[] xs = new int[MOST_POINTS];
        private final int[] ys = new int[MOST_POINTS];
        private final int[] ws = new int[MOST_POINTS];
        private int count = 0;
        private int mode = PLAIN;
        private int degree = 0;

        int size() {
            return count;
        }

        boolean isFull() {
            return count >= MOST_POINTS;
        }

        boolean has(int point) {
            return point >= 0 && point < count;
        }

        int xOf(int point) {
            return point >= 0 && point < MOST_POINTS ? xs[point] : 0;
        }

        int yOf(int point) {
            return point >= 0 && point < MOST_POINTS ? ys[point] : 0;
        }

        int wOf(int point) {
            return point >= 0 && point < MOST_POINTS ? ws[point] : 0;
        }

        void putX(int point, int x) {
            if (point >= 0 && point < MOST_POINTS) {
                xs[point] = x;
            }
        }

        void putY(int point, int y) {
            if (point >= 0 && point < MOST_POINTS) {
                ys[point] = y;
            }
        }

        void putW(int point, int w) {
            if (point >= 0 && point < MOST_POINTS) {
                ws[point] = w;
            }
        }

        void clear() {
            count = 0;
            mode = PLAIN;
            degree = 0;
        }

        void copyFrom(Nodes other) {
            for (int k = 0; k < MOST_POINTS; k++) {
                xs[k] = other.xs[k];
                ys[k] = other.ys[k];
                ws[k] = other.ws[k];
            }
            count = other.count;
            mode = other.mode;
            degree = other.degree;
        }

        void append(int x, int y, int w) {
            if (isFull()) {
                return;
            }
            count++;
            putX(count - 1, x);
            putY(count - 1, y);
            putW(count - 1, w);
        }

        void drop(int point) {
            if (!has(point)) {
                return;
            }
            for (int k = point; k < count - 1; k++) {
                putX(k, xOf(k + 1));
                putY(k, yOf(k + 1));
                putW(k, wOf(k + 1));
            }
            count--;
        }

        int find(int x) {
            for (int k = 0; k < count; k++) {
                if (xOf(k) == x) {
                    return k;
                }
            }
            return NONE;
        }

        boolean isFreeFor(int point, int x) {
            int found = find(x);
            return found == NONE || found == point;
        }

        boolean allowsShift(int by) {
            for (int k = 0; k < count; k++) {
                if (xOf(k) + by < -X_END || xOf(k) + by > X_END) {
                    return false;
                }
            }
            return true;
        }

        int placeOf(int point) {
            int place = 0;
            for (int k = 0; k < count; k++) {
                if (xOf(k) < xOf(point)) {
                    place++;
                }
            }
            return place;
        }

        /** Each Y over its distances to the others: the same number as by the steps, in one sum. */
        void putDivided(int first, int last, Fraction to) {
            to.put(0, 1);
            for (int k = first; k <= last; k++) {
                long product = 1;
                for (int j = first; j <= last; j++) {
                    if (j != k) {
                        product *= xOf(k) - xOf(j);
                    }
                }
                to.add(yOf(k), product);
            }
        }
    }

    /** The points with what is reckoned from them: the weights and both polynomials. */
    private static final class Curve {
        private final Nodes nodes = new Nodes();
        // The points by their X, and these X.
        private final int[] order = new int[MOST_POINTS];
        private final int[] sorted = new int[MOST_POINTS];
        private final long[] weights = new long[MOST_POINTS];
        private final long[] numerator = new long[MOST_POINTS];
        private final long[] denominator = new long[MOST_POINTS];
        private final long[] product = new long[MOST_POINTS];

        void reckon() {
            sort();
            reckonWeights();
            reckonPolynomials();
        }

        private void sort() {
            for (int k = 0; k < nodes.size(); k++) {
                int place = nodes.placeOf(k);
                if (place < MOST_POINTS) {
                    order[place] = k;
                    sorted[place] = nodes.xOf(k);
                }
            }
        }

        private void reckonWeights() {
            long scale = pairProduct();
            long divisor = 0;
            for (int k = 0; k < nodes.size() && k < MOST_POINTS; k++) {
                weights[k] = nodes.mode == TOLD ? nodes.wOf(k) : scaledWeight(k, scale);
                divisor = Fraction.divisor(divisor, weights[k]);
            }
            for (int k = 0; k < nodes.size() && k < MOST_POINTS && divisor > 1; k++) {
                weights[k] = weights[k] / divisor;
            }
        }

        /** The distances of all pairs: the distances in a window are some of them, so their product divides it. */
        private long pairProduct() {
            long all = 1;
            for (int k = 1; k < nodes.size() && k < MOST_POINTS; k++) {
                for (int j = 0; j < k; j++) {
                    all *= sorted[k] - sorted[j];
                }
            }
            return all;
        }

        private long scaledWeight(int point, long scale) {
            int last = nodes.size() - 1;
            // The plain weights are the blended ones of the greatest degree: one window of all points.
            int width = nodes.mode == PLAIN ? last : Math.min(nodes.degree, last);
            int place = nodes.placeOf(point);
            int end = Math.min(place, last - width);
            long sum = 0;
            for (int from = Math.max(0, place - width); from <= end; from++) {
                long distances = 1;
                for (int k = from; k <= from + width && k < MOST_POINTS; k++) {
                    distances *= k == place ? 1 : nodes.xOf(point) - sorted[k];
                }
                if (distances != 0) {
                    sum += (from % 2 == 0 ? scale : -scale) / distances;
                }
            }
            return sum;
        }

        private void reckonPolynomials() {
            for (int power = 0; power < MOST_POINTS; power++) {
                numerator[power] = 0;
                denominator[power] = 0;
            }
            for (int k = 0; k < nodes.size(); k++) {
                reckonProduct(k);
                for (int power = 0; power < MOST_POINTS; power++) {
                    long share = weightOf(k) * product[power];
                    numerator[power] += share * nodes.yOf(k);
                    denominator[power] += share;
                }
            }
        }

        private void reckonProduct(int point) {
            for (int power = 0; power < MOST_POINTS; power++) {
                product[power] = power == 0 ? 1 : 0;
            }
            for (int k = 0; k < nodes.size(); k++) {
                if (k != point) {
                    for (int power = MOST_POINTS - 1; power >= 0; power--) {
                        long below = power > 0 ? product[power - 1] : 0;
                        product[power] = below - nodes.xOf(k) * product[power];
                    }
                }
            }
        }

        long weightOf(int point) {
            return point >= 0 && point < nodes.size() && point < MOST_POINTS ? weights[point] : 0;
        }

        boolean alternates() {
            long before = 0;
            for (int place = 0; place < nodes.size() && place < MOST_POINTS; place++) {
                long here = weightOf(order[place]);
                if (here == 0 || (place > 0 && (here > 0) == (before > 0))) {
                    return false;
                }
                before = here;
            }
            return true;
        }

        long factor(boolean below, int power) {
            if (power < 0 || power >= MOST_POINTS) {
                return 0;
            }
            return below ? denominator[power] : numerator[power];
        }

        private long at(boolean below, int x) {
            long sum = 0;
            for (int power = MOST_POINTS - 1; power >= 0; power--) {
                sum = sum * x + factor(below, power);
            }
            return sum;
        }

        private long derivativeAt(boolean below, int x) {
            long sum = 0;
            for (int power = MOST_POINTS - 1; power > 0; power--) {
                sum = sum * x + power * factor(below, power);
            }
            return sum;
        }

        int kindOf(int x) {
            if (at(true, x) != 0) {
                return VALUE;
            }
            if (at(false, x) != 0) {
                return POLE;
            }
            return derivativeAt(true, x) != 0 ? GAP : NOTHING;
        }

        /** Answers whether there is a value (also of a gap). */
        boolean putValue(int x, Fraction to) {
            int kind = kindOf(x);
            if (kind == VALUE) {
                to.put(at(false, x), at(true, x));
            } else if (kind == GAP) {
                to.put(derivativeAt(false, x), derivativeAt(true, x));
            }
            return kind == VALUE || kind == GAP;
        }

        boolean hidesPoleBehind(int x) {
            long here = at(true, x);
            long next = at(true, x + 1);
            return here != 0 && next != 0 && (here > 0) != (next > 0);
        }

        void putRow(int point, int other, Fraction to) {
            to.put(0, 1);
            if (other != point) {
                addToRow(point, other, 1, to);
                return;
            }
            for (int k = 0; k < nodes.size(); k++) {
                if (k != point) {
                    addToRow(point, k, -1, to);
                }
            }
        }

        /** The point's own number is minus the others, so each other Y counts by its distance to its Y. */
        void putSlope(int point, Fraction to) {
            to.put(0, 1);
            for (int k = 0; k < nodes.size(); k++) {
                if (k != point) {
                    addToRow(point, k, nodes.yOf(k) - nodes.yOf(point), to);
                }
            }
        }

        private void addToRow(int point, int other, int times, Fraction to) {
            long distance = nodes.xOf(point) - nodes.xOf(other);
            to.add(weightOf(other) * times, weightOf(point) * distance);
        }
    }

    /** What the points were before the latest edits. */
    private static final class History {
        private final Nodes[] kept = new Nodes[MOST_EDITS];
        private int count = 0;

        History() {
            for (int k = 0; k < MOST_EDITS; k++) {
                kept[k] = new Nodes();
            }
        }

        int size() {
            return count;
        }

        void clear() {
            count = 0;
        }

        void remember(Nodes nodes) {
            if (count >= MOST_EDITS) {
                for (int k = 1; k < MOST_EDITS; k++) {
                    kept[k - 1].copyFrom(kept[k]);
                }
                count = MOST_EDITS - 1;
            }
            kept[count].copyFrom(nodes);
            count++;
        }

        boolean recall(Nodes nodes) {
            if (count <= 0 || count > MOST_EDITS) {
                return false;
            }
            count--;
            nodes.copyFrom(kept[count]);
            return true;
        }
    }

    /** The buffer, how its bytes are read as a text, and the error of the latest text. */
    private static final class Text {
        private static final int ILLEGAL = 0;
        private static final int WORD = 1;
        private static final int NUMBER = 2;
        private static final int MINUS = 3;
        private static final int SEMICOLON = 4;
        private static final int END = 5;

        private static final int MOST_LETTERS = 8;
        private static final int MOST_DIGITS = 2;

        private static final int ILLEGAL_TOKEN = 1;
        private static final int OTHER_EXPECTED = 2;
        private static final int OUT_OF_RANGE = 3;
        private static final int SAME_X = 4;
        private static final int TOO_MANY = 5;

        private final int[] bytes = new int[MOST_BYTES];
        private int filled = 0;
        private int length = 0;
        private int token = END;
        private int start = 0;
        private int next = 0;
        private int faultKind = 0;
        private int faultPosition = NONE;

        int filled() {
            return filled;
        }

        boolean hasRoomFor(int more) {
            return filled + more <= MOST_BYTES;
        }

        void append(int four) {
            for (int bits = 24; bits >= 0 && filled < MOST_BYTES; bits -= 8) {
                bytes[filled] = (four >>> bits) & 255;
                filled++;
            }
        }

        void clear() {
            filled = 0;
        }

        int faultKind() {
            return faultKind;
        }

        int faultPosition() {
            return faultPosition;
        }

        /** Answers whether the text is legal; if it is not, what the nodes hold is worthless. */
        boolean read(int ofLength, Nodes nodes) {
            length = ofLength;
            next = 0;
            faultKind = 0;
            faultPosition = NONE;
            nodes.clear();
            boolean more = true;
            // A statement takes bytes, so there are no more statements than bytes.
            for (int turn = 0; turn <= MOST_BYTES && more; turn++) {
                step();
                more = token != END && readStatement(nodes);
            }
            return faultKind == 0;
        }

        private boolean readStatement(Nodes nodes) {
            if (isWord("point")) {
                return readPoint(nodes);
            }
            if (isWord("plain")) {
                nodes.mode = PLAIN;
            } else if (isWord("told")) {
                nodes.mode = TOLD;
            } else if (isWord("blend")) {
                nodes.mode = BLENDED;
                step();
                nodes.degree = readDigits(DEGREE_END);
            } else {
                return fail(OTHER_EXPECTED);
            }
            return faultKind == 0 && readSemicolon();
        }

        private boolean readPoint(Nodes nodes) {
            if (nodes.isFull()) {
                return fail(TOO_MANY);
            }
            int x = readSigned(X_END);
            if (faultKind == 0 && nodes.find(x) != NONE) {
                return fail(SAME_X);
            }
            int y = faultKind == 0 ? readSigned(Y_END) : 0;
            if (faultKind != 0) {
                return false;
            }
            int w = 1;
            step();
            if (isWord("weight")) {
                w = readSigned(W_END);
                if (faultKind != 0) {
                    return false;
                }
                step();
            }
            nodes.append(x, y, w);
            return token == SEMICOLON || fail(OTHER_EXPECTED);
        }

        private boolean readSemicolon() {
            step();
            return token == SEMICOLON || fail(OTHER_EXPECTED);
        }

        private int readSigned(int end) {
            step();
            if (token != MINUS) {
                return readDigits(end);
            }
            step();
            return -readDigits(end);
        }

        private int readDigits(int end) {
            if (token != NUMBER) {
                fail(OTHER_EXPECTED);
                return 0;
            }
            int number = 0;
            for (int k = start; k < next; k++) {
                number = number * 10 + byteAt(k) - '0';
            }
            if (number > end) {
                fail(OUT_OF_RANGE);
                return 0;
            }
            return number;
        }

        private boolean fail(int kind) {
            faultKind = token == ILLEGAL ? ILLEGAL_TOKEN : kind;
            faultPosition = start;
            return false;
        }

        private boolean isWord(String word) {
            if (token != WORD || next - start != word.length()) {
                return false;
            }
            for (int k = 0; k < word.length(); k++) {
                if (byteAt(start + k) != word.charAt(k)) {
                    return false;
                }
            }
            return true;
        }

        /** Goes on to the next token; behind the last one that is END, at the end of the text. */
        private void step() {
            start = next;
            for (int k = next; k < length && (byteAt(k) == ' ' || byteAt(k) == '\n'); k++) {
                start = k + 1;
            }
            int first = byteAt(start);
            boolean letters = isLetter(first);
            boolean digits = isDigit(first);
            next = start + 1;
            for (int k = next; k < length
                    && (letters && isLetter(byteAt(k)) || digits && isDigit(byteAt(k))); k++) {
                next = k + 1;
            }
            if (start >= length) {
                token = END;
            } else if (letters) {
                token = next - start > MOST_LETTERS ? ILLEGAL : WORD;
            } else if (digits) {
                token = next - start > MOST_DIGITS ? ILLEGAL : NUMBER;
            } else if (first == '-') {
                token = MINUS;
            } else {
                token = first == ';' ? SEMICOLON : ILLEGAL;
            }
        }

        private int byteAt(int k) {
            return k >= 0 && k < length && k < MOST_BYTES ? bytes[k] : 0;
        }

        private static boolean isLetter(int sign) {
            return sign >= 'a' && sign <= 'z';
        }

        private static boolean isDigit(int sign) {
            return sign >= '0' && sign <= '9';
        }
    }

    /** The characters that were written last. */
    private static final class Output {
        private final char[] signs = new char[MOST_SIGNS];
        private int count = 0;

        int size() {
            return count;
        }

        void clear() {
            count = 0;
        }

        char signAt(int k) {
            return k >= 0 && k < count && k < MOST_SIGNS ? signs[k] : ' ';
        }

        void put(char sign) {
            if (count < MOST_SIGNS) {
                signs[count] = sign;
                count++;
            }
        }

        void putTerm(long factor, int power) {
            if (factor == 0) {
                return;
            }
            if (factor < 0) {
                put('-');
            } else if (count > 0) {
                put('+');
            }
            long amount = Math.abs(factor);
            if (amount != 1 || power == 0) {
                putDigits(amount);
            }
            if (power > 0) {
                put('x');
            }
            if (power > 1) {
                put('^');
                putDigits(power);
            }
        }

        void putFraction(Fraction fraction) {
            if (fraction.part(0) < 0) {
                put('-');
            }
            putDigits(Math.abs(fraction.part(0)));
            if (fraction.part(1) != 1) {
                put('/');
                putDigits(fraction.part(1));
            }
        }

        private void putDigits(long number) {
            long unit = 1;
            for (int k = 0; k < 18 && unit <= number / 10; k++) {
                unit *= 10;
            }
            for (int k = 0; k < 19 && unit > 0; k++) {
                put((char) ('0' + number / unit % 10));
                unit = unit / 10;
            }
        }
    }
}
