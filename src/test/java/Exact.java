import java.math.BigInteger;

/** A fraction of whole numbers of any size, in lowest terms: the tests' own reckoning. */
final class Exact implements Comparable<Exact> {
    static final Exact ZERO = of(0);
    static final Exact ONE = of(1);

    final BigInteger top;
    final BigInteger bottom;

    Exact(BigInteger top, BigInteger bottom) {
        BigInteger shared = top.gcd(bottom);
        BigInteger scale = bottom.signum() < 0 ? shared.negate() : shared;
        this.top = top.divide(scale);
        this.bottom = bottom.divide(scale);
    }

    static Exact of(long number) {
        return new Exact(BigInteger.valueOf(number), BigInteger.ONE);
    }

    Exact plus(Exact other) {
        return new Exact(top.multiply(other.bottom).add(other.top.multiply(bottom)), bottom.multiply(other.bottom));
    }

    Exact minus(Exact other) {
        return plus(other.times(of(-1)));
    }

    Exact times(Exact other) {
        return new Exact(top.multiply(other.top), bottom.multiply(other.bottom));
    }

    Exact over(Exact other) {
        return new Exact(top.multiply(other.bottom), bottom.multiply(other.top));
    }

    boolean isZero() {
        return top.signum() == 0;
    }

    @Override
    public int compareTo(Exact other) {
        return top.multiply(other.bottom).compareTo(other.top.multiply(bottom));
    }

    @Override
    public String toString() {
        return bottom.equals(BigInteger.ONE) ? top.toString() : top + "/" + bottom;
    }

    BigInteger part(int what) {
        return what == 0 ? top : bottom;
    }
}
