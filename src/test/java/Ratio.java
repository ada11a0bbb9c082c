import java.math.BigInteger;

/** An exact fraction in lowest terms with a positive denominator. */
record Ratio(BigInteger top, BigInteger bottom) implements Comparable<Ratio> {
    static final Ratio ZERO = of(0, 1);

    static Ratio of(long top, long bottom) {
        return lowest(BigInteger.valueOf(top), BigInteger.valueOf(bottom));
    }

    private static Ratio lowest(BigInteger top, BigInteger bottom) {
        BigInteger divisor = top.gcd(bottom);
        if (bottom.signum() < 0) {
            divisor = divisor.negate();
        }
        return new Ratio(top.divide(divisor), bottom.divide(divisor));
    }

    Ratio plus(Ratio other) {
        return lowest(top.multiply(other.bottom).add(other.top.multiply(bottom)),
                bottom.multiply(other.bottom));
    }

    Ratio minus(Ratio other) {
        return plus(new Ratio(other.top.negate(), other.bottom));
    }

    Ratio times(Ratio other) {
        return lowest(top.multiply(other.top), bottom.multiply(other.bottom));
    }

    Ratio times(long number) {
        return times(of(number, 1));
    }

    Ratio over(long number) {
        return times(of(1, number));
    }

    @Override
    public int compareTo(Ratio other) {
        return top.multiply(other.bottom).compareTo(other.top.multiply(bottom));
    }

    long part(int what) {
        return what == 0 ? top.longValueExact() : bottom.longValueExact();
    }
}
