import java.math.BigInteger;

/** An exact fraction in least numbers, the part below the line above 0. */
final class Fraction implements Comparable<Fraction> {
    static final Fraction ZERO = of(0, 1);

    final BigInteger above;
    final BigInteger below;

    private Fraction(BigInteger above, BigInteger below) {
        BigInteger common = above.gcd(below);
        this.above = above.divide(common);
        this.below = below.divide(common);
    }

    static Fraction of(long above, long below) {
        return new Fraction(BigInteger.valueOf(above), BigInteger.valueOf(below));
    }

    /** above by below, and 0 where that would be a division by 0. */
    static Fraction by(long above, long below) {
        return below == 0 ? ZERO : of(above, below);
    }

    Fraction plus(Fraction o) {
        return new Fraction(above.multiply(o.below).add(o.above.multiply(below)),
                below.multiply(o.below));
    }

    Fraction times(Fraction o) {
        return new Fraction(above.multiply(o.above), below.multiply(o.below));
    }

    @Override
    public int compareTo(Fraction o) {
        return above.multiply(o.below).compareTo(o.above.multiply(below));
    }
}
