import java.math.BigInteger;
import java.util.ArrayDeque;
import java.util.ArrayList;
import java.util.Deque;
import java.util.List;
import java.util.TreeMap;
import java.util.regex.Matcher;
import java.util.regex.Pattern;

/**
 * The document a second time, word by word and slowly, to hold the class against.
 * Exceptions are answered by their simple names.
 */
final class Model {
    private static final String INDEX = "IndexOutOfBoundsException";
    private static final String ARGUMENT = "IllegalArgumentException";
    private static final String STATE = "IllegalStateException";
    private static final String ELEMENT = "NoSuchElementException";

    /** X, Y and W of each point, the mode and the degree. */
    static final class State {
        final List<int[]> points = new ArrayList<>();
        int mode = 0;
        int degree = 0;

        State copy() {
            State other = new State();
            for (int[] point : points) {
                other.points.add(point.clone());
            }
            other.mode = mode;
            other.degree = degree;
            return other;
        }
    }

    State state = new State();
    private final Deque<State> past = new ArrayDeque<>();
    private final StringBuilder buffer = new StringBuilder();
    private String output = "";
    private int errorKind = 0;
    private int errorPosition = -1;

    int bytes() {
        return buffer.length();
    }

    int signs() {
        return output.length();
    }

    // ---- what the class is asked

    Object answer(String name, int... v) {
        switch (name) {
            case "feed": return feed(v);
            case "load": return load(v[0]);
            case "errorKind": return errorKind;
            case "errorPosition": return errorPosition;
            case "points": return state.points.size();
            case "mode": return state.mode;
            case "degree": return state.degree;
            case "point": return no(v[0]) ? INDEX : out(v[1], 0, 3) ? ARGUMENT : v[1] == 3 ? sortedPlace(state, v[0])
                    : state.points.get(v[0])[v[1]];
            case "pointAt": return out(v[0], -12, 12) ? ARGUMENT : at(v[0]) < 0 ? ELEMENT : at(v[0]);
            case "weight": return no(v[0]) ? INDEX : weights(state)[v[0]];
            case "isAlternating": return isAlternating();
            case "weightSum": return weightSum();
            case "degreeOf": return top(polynomial(state, v[0] == 1));
            case "coefficient": return out(v[1], 0, 4) ? ARGUMENT : coefficient(polynomial(state, v[0] == 1), v[1]);
            case "kindAt": return out(v[0], -12, 12) ? ARGUMENT : kind(state, v[0]);
            case "value": return out(v[0], -12, 12) || out(v[1], 0, 1) ? ARGUMENT : part(value(state, v[0]), v[1]);
            case "about": return out(v[0], -12, 12) ? ARGUMENT : about(value(state, v[0]));
            case "isMet": return no(v[0]) ? INDEX : isMet(v[0]);
            case "missed": return missed();
            case "many": return many(v[0]);
            case "hiddenPoles": return hiddenPoles();
            case "nextPole": return out(v[0], -12, 12) ? ARGUMENT : nextPole(v[0]);
            case "extreme": return extreme(v[0] == 1);
            case "row": return no(v[0]) || no(v[1]) ? INDEX : out(v[2], 0, 1) ? ARGUMENT : weightless(v[0]) ? STATE
                    : part(row(v[0], v[1]), v[2]);
            case "slope": return no(v[0]) ? INDEX : out(v[1], 0, 1) ? ARGUMENT : weightless(v[0]) ? STATE
                    : part(slope(v[0]), v[1]);
            case "steepest": return steepest();
            case "divided": return no(v[0]) || no(v[1]) ? INDEX : out(v[2], 0, 1) || v[0] > v[1] ? ARGUMENT
                    : part(divided(v[0], v[1]), v[2]);
            case "plainValue": return out(v[0], -12, 12) || out(v[1], 0, 1) ? ARGUMENT : plainValue(v[0], v[1]);
            case "valueIf": return no(v[0]) ? INDEX : out(v[1], -9, 9) || out(v[2], -12, 12) || out(v[3], 0, 1) ? ARGUMENT
                    : taken(v[0], v[1]) ? STATE : part(value(moved(v[0], v[1]), v[2]), v[3]);
            case "valueWithout": return no(v[0]) ? INDEX : out(v[1], -12, 12) || out(v[2], 0, 1) ? ARGUMENT
                    : part(value(without(v[0]), v[1]), v[2]);
            case "bestPlace": return no(v[0]) ? INDEX : out(v[1], -12, 12) ? ARGUMENT : bestPlace(v[0], v[1]);
            case "write": return write(v[0] == 1);
            case "writeValues": return writeValues();
            case "written": return v[0] < 0 || v[0] >= output.length() ? INDEX : output.charAt(v[0]);
            default: return edit(name, v);
        }
    }

    private Object edit(String name, int... v) {
        switch (name) {
            case "move": return no(v[0]) ? INDEX : out(v[1], -9, 9) ? ARGUMENT : taken(v[0], v[1]) ? STATE : put(v[0], 0, v[1]);
            case "setValue": return no(v[0]) ? INDEX : out(v[1], -20, 20) ? ARGUMENT : put(v[0], 1, v[1]);
            case "setWeight": return no(v[0]) ? INDEX : out(v[1], -9, 9) ? ARGUMENT : put(v[0], 2, v[1]);
            case "addPoint": return out(v[0], -9, 9) || out(v[1], -20, 20) || out(v[2], -9, 9) ? ARGUMENT
                    : at(v[0]) >= 0 || state.points.size() == 5 ? STATE : add(v);
            case "removePoint": return no(v[0]) ? INDEX : remove(v[0]);
            case "setMode": return out(v[0], 0, 2) || out(v[1], 0, 4) ? ARGUMENT : setMode(v[0], v[1]);
            case "shift": return out(v[0], -18, 18) ? ARGUMENT : shift(v[0]);
            case "mirror": return mirror();
            case "undo": return undo();
            default: throw new AssertionError(name);
        }
    }

    private static boolean out(int number, int first, int last) {
        return number < first || number > last;
    }

    private boolean no(int point) {
        return point < 0 || point >= state.points.size();
    }

    private int at(int x) {
        for (int k = 0; k < state.points.size(); k++) {
            if (state.points.get(k)[0] == x) {
                return k;
            }
        }
        return -1;
    }

    private boolean taken(int point, int x) {
        return at(x) >= 0 && at(x) != point;
    }

    private static Object part(Exact value, int what) {
        return value == null ? ELEMENT : value.part(what);
    }

    // ---- text

    private int feed(int[] v) {
        if (buffer.length() + 20 > 400) {
            return -2;
        }
        for (int word : v) {
            for (int bits = 24; bits >= 0; bits -= 8) {
                buffer.append((char) (word >>> bits & 255));
            }
        }
        return buffer.length();
    }

    private Object load(int length) {
        if (out(length, 0, buffer.length())) {
            return ARGUMENT;
        }
        String text = buffer.substring(0, length);
        buffer.setLength(0);
        State read = new State();
        errorKind = 0;
        errorPosition = -1;
        judge(text, read);
        if (errorKind != 0) {
            return -3;
        }
        state = read;
        past.clear();
        return state.points.size();
    }

    private static final Pattern TOKEN = Pattern.compile("[ \\n]*(?:([a-z]+)|([0-9]+)|(-)|(;)|([^ \\n])|$)", Pattern.DOTALL);

    /** Each token gets the sign of its sort; what may follow is told by the sorts that were before it. */
    private void judge(String text, State read) {
        Matcher matcher = TOKEN.matcher(text);
        String expected = "statement";
        int[] point = null;
        boolean minus = false;
        int from = 0;
        while (true) {
            matcher.find(from);
            from = matcher.end();
            String token = null;
            int start = text.length();
            for (int group = 1; group <= 5; group++) {
                if (matcher.group(group) != null) {
                    token = matcher.group(group);
                    start = matcher.start(group);
                }
            }
            if (token == null) {
                if (!expected.equals("statement")) {
                    error(2, start);
                }
                return;
            }
            if (!token.matches("[a-z]{1,8}|[0-9]{1,2}|-|;")) {
                error(1, start);
                return;
            }
            switch (expected) {
                case "statement":
                    if (token.equals("point")) {
                        if (read.points.size() == 5) {
                            error(5, start);
                            return;
                        }
                        point = new int[] {0, 0, 1};
                        expected = "X";
                    } else if (token.equals("plain") || token.equals("told")) {
                        read.mode = token.equals("plain") ? 0 : 2;
                        expected = ";";
                    } else if (token.equals("blend")) {
                        read.mode = 1;
                        expected = "D";
                    } else {
                        error(2, start);
                        return;
                    }
                    break;
                case ";":
                case "; or weight":
                    if (token.equals(";")) {
                        expected = "statement";
                        if (point != null) {
                            read.points.add(point);
                        }
                        point = null;
                    } else if (token.equals("weight") && expected.equals("; or weight")) {
                        expected = "W";
                    } else {
                        error(2, start);
                        return;
                    }
                    break;
                case "D":
                    if (!token.matches("[0-9]+")) {
                        error(2, start);
                        return;
                    }
                    if (Integer.parseInt(token) > 4) {
                        error(3, start);
                        return;
                    }
                    read.degree = Integer.parseInt(token);
                    expected = ";";
                    break;
                default:
                    if (token.equals("-") && !minus) {
                        minus = true;
                        break;
                    }
                    if (!token.matches("[0-9]+")) {
                        error(2, start);
                        return;
                    }
                    int number = Integer.parseInt(token) * (minus ? -1 : 1);
                    minus = false;
                    if (Math.abs(number) > (expected.equals("Y") ? 20 : 9)) {
                        error(3, start);
                        return;
                    }
                    if (expected.equals("X")) {
                        for (int[] other : read.points) {
                            if (other[0] == number) {
                                error(4, start);
                                return;
                            }
                        }
                        point[0] = number;
                        expected = "Y";
                    } else if (expected.equals("Y")) {
                        point[1] = number;
                        expected = "; or weight";
                    } else {
                        point[2] = number;
                        expected = ";";
                    }
            }
        }
    }

    private void error(int kind, int position) {
        errorKind = kind;
        errorPosition = position;
    }

    // ---- weights

    private static int sortedPlace(State s, int point) {
        int place = 0;
        for (int[] other : s.points) {
            place += other[0] < s.points.get(point)[0] ? 1 : 0;
        }
        return place;
    }

    private static Exact[] rawWeights(State s) {
        int n = s.points.size();
        TreeMap<Integer, Integer> sorted = new TreeMap<>();
        for (int k = 0; k < n; k++) {
            sorted.put(s.points.get(k)[0], k);
        }
        List<Integer> xs = new ArrayList<>(sorted.keySet());
        Exact[] raw = new Exact[n];
        for (int k = 0; k < n; k++) {
            int point = sorted.get(xs.get(k));
            if (s.mode == 2) {
                raw[point] = Exact.of(s.points.get(point)[2]);
            } else if (s.mode == 0) {
                raw[point] = Exact.ONE;
                for (int j = 0; j < n; j++) {
                    if (j != k) {
                        raw[point] = raw[point].over(Exact.of(xs.get(k) - xs.get(j)));
                    }
                }
            } else {
                int d = Math.min(s.degree, n - 1);
                raw[point] = Exact.ZERO;
                for (int i = Math.max(0, k - d); i <= Math.min(k, n - 1 - d); i++) {
                    Exact term = Exact.of(i % 2 == 0 ? 1 : -1);
                    for (int j = i; j <= i + d; j++) {
                        if (j != k) {
                            term = term.over(Exact.of(xs.get(k) - xs.get(j)));
                        }
                    }
                    raw[point] = raw[point].plus(term);
                }
            }
        }
        return raw;
    }

    static BigInteger[] weights(State s) {
        Exact[] raw = rawWeights(s);
        BigInteger times = BigInteger.ONE;
        for (Exact one : raw) {
            times = times.multiply(one.bottom);
        }
        BigInteger shared = BigInteger.ZERO;
        BigInteger[] weights = new BigInteger[raw.length];
        for (int k = 0; k < raw.length; k++) {
            weights[k] = raw[k].top.multiply(times).divide(raw[k].bottom);
            shared = shared.gcd(weights[k]);
        }
        for (int k = 0; k < raw.length && shared.signum() != 0; k++) {
            weights[k] = weights[k].divide(shared);
        }
        return weights;
    }

    private boolean weightless(int point) {
        return weights(state)[point].signum() == 0;
    }

    private boolean isAlternating() {
        BigInteger[] weights = weights(state);
        for (int j = 0; j < weights.length; j++) {
            if (weights[j].signum() == 0) {
                return false;
            }
            for (int k = 0; k < weights.length; k++) {
                if (sortedPlace(state, k) == sortedPlace(state, j) + 1 && weights[j].signum() == weights[k].signum()) {
                    return false;
                }
            }
        }
        return true;
    }

    private BigInteger weightSum() {
        BigInteger sum = BigInteger.ZERO;
        for (BigInteger weight : weights(state)) {
            sum = sum.add(weight);
        }
        return sum;
    }

    // ---- polynomials: lists of coefficients, the power 0 first

    private static List<BigInteger> polynomial(State s, boolean denominator) {
        int n = s.points.size();
        BigInteger[] weights = weights(s);
        List<BigInteger> sum = new ArrayList<>();
        for (int k = 0; k < n; k++) {
            BigInteger times = denominator ? weights[k] : weights[k].multiply(BigInteger.valueOf(s.points.get(k)[1]));
            List<BigInteger> product = new ArrayList<>(List.of(times));
            for (int j = 0; j < n; j++) {
                if (j != k) {
                    product = timesLinear(product, s.points.get(j)[0]);
                }
            }
            for (int power = 0; power < product.size(); power++) {
                if (power == sum.size()) {
                    sum.add(BigInteger.ZERO);
                }
                sum.set(power, sum.get(power).add(product.get(power)));
            }
        }
        return sum;
    }

    private static List<BigInteger> timesLinear(List<BigInteger> p, int root) {
        List<BigInteger> product = new ArrayList<>();
        for (int power = 0; power <= p.size(); power++) {
            BigInteger c = power > 0 ? p.get(power - 1) : BigInteger.ZERO;
            if (power < p.size()) {
                c = c.subtract(p.get(power).multiply(BigInteger.valueOf(root)));
            }
            product.add(c);
        }
        return product;
    }

    private static BigInteger coefficient(List<BigInteger> p, int power) {
        return power < p.size() ? p.get(power) : BigInteger.ZERO;
    }

    private static int top(List<BigInteger> p) {
        int degree = -1;
        for (int power = 0; power < p.size(); power++) {
            degree = p.get(power).signum() != 0 ? power : degree;
        }
        return degree;
    }

    private static BigInteger at(List<BigInteger> p, int x) {
        BigInteger sum = BigInteger.ZERO;
        for (int power = 0; power < p.size(); power++) {
            sum = sum.add(p.get(power).multiply(BigInteger.valueOf(x).pow(power)));
        }
        return sum;
    }

    private static List<BigInteger> derivative(List<BigInteger> p) {
        List<BigInteger> d = new ArrayList<>();
        for (int power = 1; power < p.size(); power++) {
            d.add(p.get(power).multiply(BigInteger.valueOf(power)));
        }
        return d;
    }

    private static int kind(State s, int x) {
        List<BigInteger> below = polynomial(s, true);
        if (at(below, x).signum() != 0) {
            return 0;
        }
        if (at(polynomial(s, false), x).signum() != 0) {
            return 2;
        }
        return at(derivative(below), x).signum() != 0 ? 1 : 3;
    }

    /** null if there is none. */
    private static Exact value(State s, int x) {
        switch (kind(s, x)) {
            case 0:
                return new Exact(at(polynomial(s, false), x), at(polynomial(s, true), x));
            case 1:
                return new Exact(at(derivative(polynomial(s, false)), x), at(derivative(polynomial(s, true)), x));
            default:
                return null;
        }
    }

    private static Object about(Exact value) {
        return value == null ? ELEMENT : (Object) ((double) value.top.longValueExact() / (double) value.bottom.longValueExact());
    }

    private boolean isMet(int point) {
        Exact value = value(state, state.points.get(point)[0]);
        return value != null && value.compareTo(Exact.of(state.points.get(point)[1])) == 0;
    }

    private int missed() {
        int count = 0;
        for (int k = 0; k < state.points.size(); k++) {
            count += isMet(k) ? 0 : 1;
        }
        return count;
    }

    // ---- poles

    private int many(int kind) {
        int count = 0;
        for (int x = -12; x <= 12; x++) {
            count += kind(state, x) == kind ? 1 : 0;
        }
        return count;
    }

    private boolean hides(int x) {
        List<BigInteger> below = polynomial(state, true);
        return at(below, x).signum() * at(below, x + 1).signum() == -1;
    }

    private int hiddenPoles() {
        int count = 0;
        for (int x = -12; x <= 11; x++) {
            count += hides(x) ? 1 : 0;
        }
        return count;
    }

    private Object nextPole(int from) {
        for (int x = from; x <= 12; x++) {
            if (kind(state, x) == 2 || x < 12 && hides(x)) {
                return x;
            }
        }
        return ELEMENT;
    }

    private Object extreme(boolean greatest) {
        Exact best = null;
        int place = 0;
        for (int x = 12; x >= -12; x--) {
            Exact value = value(state, x);
            if (value != null && (best == null || (greatest ? value.compareTo(best) >= 0 : value.compareTo(best) <= 0))) {
                best = value;
                place = x;
            }
        }
        return best == null ? ELEMENT : (Object) place;
    }

    // ---- derivatives and divided differences

    private Exact row(int k, int j) {
        if (j != k) {
            BigInteger[] weights = weights(state);
            return new Exact(weights[j], weights[k])
                    .over(Exact.of(state.points.get(k)[0] - state.points.get(j)[0]));
        }
        Exact sum = Exact.ZERO;
        for (int other = 0; other < state.points.size(); other++) {
            sum = other == k ? sum : sum.plus(row(k, other));
        }
        return Exact.ZERO.minus(sum);
    }

    private Exact slope(int k) {
        Exact sum = Exact.ZERO;
        for (int j = 0; j < state.points.size(); j++) {
            sum = sum.plus(row(k, j).times(Exact.of(state.points.get(j)[1])));
        }
        return sum;
    }

    private Object steepest() {
        int found = -1;
        for (int k = state.points.size() - 1; k >= 0; k--) {
            if (!weightless(k) && (found < 0 || slope(k).compareTo(slope(found)) >= 0)) {
                found = k;
            }
        }
        return found < 0 ? ELEMENT : (Object) found;
    }

    private Exact divided(int i, int k) {
        if (i == k) {
            return Exact.of(state.points.get(i)[1]);
        }
        return divided(i + 1, k).minus(divided(i, k - 1))
                .over(Exact.of(state.points.get(k)[0] - state.points.get(i)[0]));
    }

    /** By Newton's steps, so not by the weights that the class uses. */
    private Object plainValue(int x, int what) {
        if (state.points.isEmpty()) {
            return ELEMENT;
        }
        Exact sum = Exact.ZERO;
        Exact product = Exact.ONE;
        for (int k = 0; k < state.points.size(); k++) {
            sum = sum.plus(divided(0, k).times(product));
            product = product.times(Exact.of(x - state.points.get(k)[0]));
        }
        return sum.part(what);
    }

    // ---- what would be

    private State moved(int point, int to) {
        State other = state.copy();
        other.points.get(point)[0] = to;
        return other;
    }

    private State without(int point) {
        State other = state.copy();
        other.points.remove(point);
        return other;
    }

    private Object bestPlace(int point, int x) {
        Exact best = null;
        int place = 0;
        for (int to = 9; to >= -9; to--) {
            Exact value = taken(point, to) ? null : value(moved(point, to), x);
            if (value != null && (best == null || value.compareTo(best) >= 0)) {
                best = value;
                place = to;
            }
        }
        return best == null ? ELEMENT : (Object) place;
    }

    // ---- edits

    private void remember() {
        past.push(state.copy());
        if (past.size() > 10) {
            past.removeLast();
        }
    }

    private int put(int point, int which, int number) {
        remember();
        int before = state.points.get(point)[which];
        state.points.get(point)[which] = number;
        return before;
    }

    private int add(int[] v) {
        remember();
        state.points.add(v.clone());
        return state.points.size() - 1;
    }

    private int remove(int point) {
        remember();
        state.points.remove(point);
        return state.points.size();
    }

    private int setMode(int mode, int degree) {
        remember();
        int before = state.mode;
        state.mode = mode;
        state.degree = mode == 1 ? degree : state.degree;
        return before;
    }

    private Object shift(int by) {
        for (int[] point : state.points) {
            if (out(point[0] + by, -9, 9)) {
                return STATE;
            }
        }
        remember();
        for (int[] point : state.points) {
            point[0] += by;
        }
        return state.points.size();
    }

    private int mirror() {
        remember();
        for (int[] point : state.points) {
            point[0] = -point[0];
        }
        return state.points.size();
    }

    private int undo() {
        if (past.isEmpty()) {
            return -1;
        }
        state = past.pop();
        return past.size();
    }

    // ---- output

    private int write(boolean denominator) {
        List<BigInteger> p = polynomial(state, denominator);
        StringBuilder text = new StringBuilder();
        for (int power = p.size() - 1; power >= 0; power--) {
            BigInteger c = p.get(power);
            if (c.signum() != 0) {
                text.append(c.signum() < 0 ? "-" : text.length() > 0 ? "+" : "");
                text.append(power > 0 && c.abs().equals(BigInteger.ONE) ? "" : c.abs().toString());
                text.append(power > 1 ? "x^" + power : power == 1 ? "x" : "");
            }
        }
        output = text.length() == 0 ? "0" : text.toString();
        return output.length();
    }

    private int writeValues() {
        List<String> words = new ArrayList<>();
        for (int x = -3; x <= 3; x++) {
            Exact value = value(state, x);
            words.add(value != null ? value.toString() : kind(state, x) == 2 ? "!" : "?");
        }
        output = String.join(" ", words);
        return output.length();
    }
}
