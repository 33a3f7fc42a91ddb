import java.math.BigInteger;

/** An exact fraction. */
final class Fraction implements Comparable<Fraction> {
    private final BigInteger top;
    private final BigInteger bottom;

    private Fraction(BigInteger top, BigInteger bottom) {
        boolean below = bottom.signum() < 0;
        this.top = below ? top.negate() : top;
        this.bottom = below ? bottom.negate() : bottom;
    }

    static Fraction of(long top, long bottom) {
        return new Fraction(BigInteger.valueOf(top), BigInteger.valueOf(bottom));
    }

    static Fraction of(long whole) {
        return of(whole, 1);
    }

    Fraction plus(Fraction x) {
        return new Fraction(top.multiply(x.bottom).add(x.top.multiply(bottom)), bottom.multiply(x.bottom));
    }

    Fraction minus(Fraction x) {
        return plus(x.times(of(-1)));
    }

    Fraction times(Fraction x) {
        return new Fraction(top.multiply(x.top), bottom.multiply(x.bottom));
    }

    Fraction over(Fraction x) {
        return new Fraction(top.multiply(x.bottom), bottom.multiply(x.top));
    }

    Fraction abs() {
        return new Fraction(top.abs(), bottom);
    }

    long floor() {
        BigInteger[] parts = top.divideAndRemainder(bottom);
        return (parts[1].signum() < 0 ? parts[0].subtract(BigInteger.ONE) : parts[0]).longValueExact();
    }

    /** What is above the whole number below it. */
    Fraction rest() {
        return minus(of(floor()));
    }

    @Override
    public int compareTo(Fraction x) {
        return top.multiply(x.bottom).compareTo(x.top.multiply(bottom));
    }

    boolean isBelow(long x) {
        return compareTo(of(x)) < 0;
    }

    boolean isAbove(long x) {
        return compareTo(of(x)) > 0;
    }
}
