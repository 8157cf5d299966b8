import java.math.BigInteger;

/** An exact fraction in lowest terms. */
final class Rat implements Comparable<Rat> {
    static final Rat ZERO = of(0);
    final BigInteger up;
    final BigInteger down;

    private Rat(BigInteger up, BigInteger down) {
        BigInteger g = up.gcd(down);
        if (down.signum() < 0) {
            g = g.negate();
        }
        this.up = up.divide(g);
        this.down = down.divide(g);
    }

    static Rat of(long n) {
        return new Rat(BigInteger.valueOf(n), BigInteger.ONE);
    }

    static Rat of(long up, long down) {
        return new Rat(BigInteger.valueOf(up), BigInteger.valueOf(down));
    }

    Rat plus(Rat o) {
        return new Rat(up.multiply(o.down).add(o.up.multiply(down)), down.multiply(o.down));
    }

    Rat minus(Rat o) {
        return new Rat(up.multiply(o.down).subtract(o.up.multiply(down)), down.multiply(o.down));
    }

    Rat times(Rat o) {
        return new Rat(up.multiply(o.up), down.multiply(o.down));
    }

    Rat by(Rat o) {
        return new Rat(up.multiply(o.down), down.multiply(o.up));
    }

    Rat max(Rat o) {
        return compareTo(o) >= 0 ? this : o;
    }

    Rat min(Rat o) {
        return compareTo(o) <= 0 ? this : o;
    }

    long floor() {
        return up.divide(down).longValueExact() - (up.signum() < 0 && up.mod(down).signum() != 0 ? 1 : 0);
    }

    int sign() {
        return up.signum();
    }

    @Override
    public int compareTo(Rat o) {
        return up.multiply(o.down).compareTo(o.up.multiply(down));
    }

    @Override
    public boolean equals(Object o) {
        return o instanceof Rat r && compareTo(r) == 0;
    }

    @Override
    public int hashCode() {
        return up.hashCode() * 31 + down.hashCode();
    }

    @Override
    public String toString() {
        return up + "/" + down;
    }
}
