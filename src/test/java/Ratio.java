import java.math.BigInteger;

/** A fraction of any length, in least terms. */
final class Ratio implements Comparable<Ratio> {
    static final Ratio ZERO = of(0, 1);
    static final Ratio ONE = of(1, 1);

    final BigInteger above;
    final BigInteger below;

    private Ratio(BigInteger above, BigInteger below) {
        BigInteger factor = above.gcd(below);
        this.above = above.divide(factor);
        this.below = below.divide(factor);
    }

    static Ratio of(long above, long below) {
        return new Ratio(BigInteger.valueOf(above), BigInteger.valueOf(below));
    }

    Ratio plus(Ratio other) {
        return new Ratio(above.multiply(other.below).add(other.above.multiply(below)), below.multiply(other.below));
    }

    Ratio minus(Ratio other) {
        return plus(other.times(of(-1, 1)));
    }

    Ratio times(Ratio other) {
        return new Ratio(above.multiply(other.above), below.multiply(other.below));
    }

    Ratio times(long other) {
        return times(of(other, 1));
    }

    Ratio over(Ratio other) {
        return new Ratio(above.multiply(other.below), below.multiply(other.above));
    }

    Ratio power(int times) {
        Ratio product = ONE;
        for (int i = 0; i < times; i++) {
            product = product.times(this);
        }
        return product;
    }

    boolean isZero() {
        return above.signum() == 0;
    }

    /** Fails, as it should, on what no long holds. */
    long part(int part) {
        return (part == 0 ? above : below).longValueExact();
    }

    @Override
    public int compareTo(Ratio other) {
        return above.multiply(other.below).compareTo(other.above.multiply(below));
    }
}
