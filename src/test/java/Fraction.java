import java.math.BigInteger;

/** An exact fraction for the tests. */
final class Fraction implements Comparable<Fraction> {
    static final Fraction ZERO = of(0);
    static final Fraction ONE = of(1);

    final BigInteger above;
    final BigInteger below;

    Fraction(BigInteger above, BigInteger below) {
        BigInteger common = above.gcd(below);
        if (below.signum() < 0) {
            common = common.negate();
        }
        this.above = above.divide(common);
        this.below = below.divide(common);
    }

    static Fraction of(long v) {
        return new Fraction(BigInteger.valueOf(v), BigInteger.ONE);
    }

    static Fraction of(long above, long below) {
        return new Fraction(BigInteger.valueOf(above), BigInteger.valueOf(below));
    }

    Fraction plus(Fraction o) {
        return new Fraction(above.multiply(o.below).add(o.above.multiply(below)), below.multiply(o.below));
    }

    Fraction minus(Fraction o) {
        return plus(o.negate());
    }

    Fraction times(Fraction o) {
        return new Fraction(above.multiply(o.above), below.multiply(o.below));
    }

    Fraction by(Fraction o) {
        return new Fraction(above.multiply(o.below), below.multiply(o.above));
    }

    Fraction times(long v) {
        return times(of(v));
    }

    Fraction by(long v) {
        return by(of(v));
    }

    Fraction negate() {
        return new Fraction(above.negate(), below);
    }

    Fraction abs() {
        return above.signum() < 0 ? negate() : this;
    }

    int sign() {
        return above.signum();
    }

    boolean isZero() {
        return above.signum() == 0;
    }

    @Override
    public int compareTo(Fraction o) {
        return above.multiply(o.below).compareTo(o.above.multiply(below));
    }

    @Override
    public boolean equals(Object o) {
        return o instanceof Fraction && compareTo((Fraction) o) == 0;
    }

    @Override
    public int hashCode() {
        return above.hashCode() * 31 + below.hashCode();
    }

    @Override
    public String toString() {
        return above + "/" + below;
    }
}
