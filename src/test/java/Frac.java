import java.math.BigInteger;

/** A fraction of any size in lowest terms, for the tests alone; 1 by 0 is the one without end. */
final class Frac {
    static final Frac ZERO = of(0, 1);
    static final Frac ONE = of(1, 1);
    static final Frac ENDLESS = of(1, 0);

    final BigInteger upper;
    final BigInteger lower;

    private Frac(BigInteger upper, BigInteger lower) {
        BigInteger common = upper.gcd(lower);
        if (lower.signum() < 0 || lower.signum() == 0 && upper.signum() < 0) {
            common = common.negate();
        }
        this.upper = upper.divide(common);
        this.lower = lower.divide(common);
    }

    static Frac of(long upper, long lower) {
        return new Frac(BigInteger.valueOf(upper), BigInteger.valueOf(lower));
    }

    boolean isEndless() {
        return lower.signum() == 0;
    }

    boolean isZero() {
        return upper.signum() == 0;
    }

    Frac plus(Frac o) {
        return new Frac(upper.multiply(o.lower).add(o.upper.multiply(lower)), lower.multiply(o.lower));
    }

    Frac negate() {
        return new Frac(upper.negate(), lower);
    }

    Frac minus(Frac o) {
        return plus(o.negate());
    }

    Frac times(Frac o) {
        return new Frac(upper.multiply(o.upper), lower.multiply(o.lower));
    }

    Frac by(Frac o) {
        return new Frac(upper.multiply(o.lower), lower.multiply(o.upper));
    }

    int sign() {
        return upper.signum();
    }

    int compareTo(Frac o) {
        return upper.multiply(o.lower).compareTo(o.upper.multiply(lower));
    }

    boolean is(Frac o) {
        return upper.equals(o.upper) && lower.equals(o.lower);
    }

    /** null, if the root is no fraction. */
    Frac root() {
        if (upper.signum() < 0) {
            return null;
        }
        BigInteger a = upper.sqrt();
        BigInteger b = lower.sqrt();
        return a.multiply(a).equals(upper) && b.multiply(b).equals(lower) ? new Frac(a, b) : null;
    }

    int partsDown() {
        return upper.multiply(BigInteger.valueOf(10000)).divide(lower).intValueExact();
    }

    long told(boolean tellLower) {
        return (tellLower ? lower : upper).longValueExact();
    }

    /** The order of LENGTHS. */
    static int compareLengths(Frac t, Frac u) {
        int one = group(t);
        int another = group(u);
        if (one != another) {
            return Integer.compare(one, another);
        }
        return one == 1 ? 0 : t.compareTo(u);
    }

    private static int group(Frac t) {
        return t.isEndless() ? 1 : t.sign() >= 0 ? 0 : 2;
    }
}
