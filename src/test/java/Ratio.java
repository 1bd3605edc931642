import java.math.BigInteger;

/** An exact fraction in least terms, the lower number above 0. */
final class Ratio implements Comparable<Ratio> {
    static final Ratio ZERO = new Ratio(BigInteger.ZERO, BigInteger.ONE);
    static final Ratio ONE = of(1, 1);

    final BigInteger above;
    final BigInteger below;

    private Ratio(BigInteger above, BigInteger below) {
        BigInteger g = above.gcd(below);
        this.above = above.divide(g);
        this.below = below.divide(g);
    }

    static Ratio of(long above, long below) {
        return new Ratio(BigInteger.valueOf(above), BigInteger.valueOf(below));
    }

    static Ratio of(long whole) {
        return of(whole, 1);
    }

    Ratio plus(Ratio o) {
        return new Ratio(above.multiply(o.below).add(o.above.multiply(below)), below.multiply(o.below));
    }

    Ratio minus(Ratio o) {
        return plus(o.times(of(-1)));
    }

    Ratio times(Ratio o) {
        return new Ratio(above.multiply(o.above), below.multiply(o.below));
    }

    Ratio max(Ratio o) {
        return compareTo(o) >= 0 ? this : o;
    }

    boolean isPositive() {
        return above.signum() > 0;
    }

    @Override
    public int compareTo(Ratio o) {
        return above.multiply(o.below).compareTo(o.above.multiply(below));
    }

    long part(int part) {
        return (part == 0 ? above : below).longValueExact();
    }
}
