import java.math.BigInteger;

/** An exact fraction in lowest terms with a positive denominator. */
final class Fraction implements Comparable<Fraction> {
    static final Fraction ZERO = of(0, 1);
    static final Fraction ONE = of(1, 1);

    final BigInteger top;
    final BigInteger bottom;

    private Fraction(BigInteger top, BigInteger bottom) {
        BigInteger g = top.gcd(bottom);
        if (bottom.signum() < 0) {
            g = g.negate();
        }
        this.top = top.divide(g);
        this.bottom = bottom.divide(g);
    }

    static Fraction of(long top, long bottom) {
        return new Fraction(BigInteger.valueOf(top), BigInteger.valueOf(bottom));
    }

    Fraction plus(Fraction o) {
        return new Fraction(top.multiply(o.bottom).add(o.top.multiply(bottom)), bottom.multiply(o.bottom));
    }

    Fraction minus(Fraction o) {
        return plus(o.times(of(-1, 1)));
    }

    Fraction times(Fraction o) {
        return new Fraction(top.multiply(o.top), bottom.multiply(o.bottom));
    }

    Fraction over(Fraction o) {
        return new Fraction(top.multiply(o.bottom), bottom.multiply(o.top));
    }

    int sign() {
        return top.signum();
    }

    boolean isInteger() {
        return bottom.equals(BigInteger.ONE);
    }

    long half(int what) {
        return (what == 0 ? top : bottom).longValueExact();
    }

    @Override
    public int compareTo(Fraction o) {
        return minus(o).sign();
    }
}
