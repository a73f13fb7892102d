import java.math.BigInteger;

/** An exact fraction in least terms, for the oracle. */
final class Fraction implements Comparable<Fraction> {
    static final Fraction ZERO = of(0, 1);
    static final Fraction ONE = of(1, 1);
    final BigInteger above;
    final BigInteger below;

    private Fraction(BigInteger above, BigInteger below) {
        BigInteger common = above.gcd(below);
        if (below.signum() < 0) {
            common = common.negate();
        }
        this.above = above.divide(common);
        this.below = below.divide(common);
    }

    static Fraction of(long above, long below) {
        return new Fraction(BigInteger.valueOf(above), BigInteger.valueOf(below));
    }

    Fraction plus(Fraction f) {
        return new Fraction(above.multiply(f.below).add(f.above.multiply(below)), below.multiply(f.below));
    }

    Fraction minus(Fraction f) {
        return plus(new Fraction(f.above.negate(), f.below));
    }

    Fraction times(Fraction f) {
        return new Fraction(above.multiply(f.above), below.multiply(f.below));
    }

    Fraction over(Fraction f) {
        return new Fraction(above.multiply(f.below), below.multiply(f.above));
    }

    boolean isZero() {
        return above.signum() == 0;
    }

    long term(int what) {
        return (what == 0 ? above : below).longValueExact();
    }

    @Override
    public int compareTo(Fraction f) {
        return above.multiply(f.below).compareTo(f.above.multiply(below));
    }

    @Override
    public boolean equals(Object o) {
        return o instanceof Fraction f && compareTo(f) == 0;
    }

    @Override
    public int hashCode() {
        return above.hashCode() * 31 + below.hashCode();
    }

    @Override
    public String toString() {
        return above + "/" + below;
    }
}
