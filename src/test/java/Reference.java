import java.math.BigInteger;

/**
 * The document once more, over fractions of BigIntegers and without regard to speed: what the
 * random runs are held against. It shares no way of working with the program.
 */
final class Reference {
    private static final int NAN = 0;
    private static final int INFINITE = 1;
    private static final int ZERO = 2;
    private static final int REGULAR = 3;
    private static final BigInteger ONE = BigInteger.ONE;
    private static final BigInteger GREATEST = BigInteger.valueOf(Long.MAX_VALUE);
    private static final BigInteger LEAST = BigInteger.valueOf(Long.MIN_VALUE);

    /** A kind and a sign; when REGULAR the size is above / below, both greater than 0. */
    private record Num(int kind, int sign, BigInteger above, BigInteger below) {
        static Num plain(int kind, int sign) {
            return new Num(kind, kind == NAN ? 0 : sign, BigInteger.ZERO, ONE);
        }

        static Num of(BigInteger above, BigInteger below) {
            int sign = above.signum() * below.signum();
            return new Num(REGULAR, sign, above.abs(), below.abs());
        }

        Num turned() {
            return new Num(kind, -sign, above, below);
        }

        BigInteger signedAbove() {
            return sign < 0 ? above.negate() : above;
        }
    }

    private final int[] prec = new int[8];
    private final Num[] value = new Num[8];

    Reference(int bits) {
        for (int r = 0; r < 8; r++) {
            prec[r] = bits < 1 ? 1 : bits > 93 ? 93 : bits;
            value[r] = Num.plain(NAN, 0);
        }
    }

    boolean setPrec(int r, int bits) {
        if (none(r) || bits < 1 || bits > 93) {
            return false;
        }
        prec[r] = bits;
        value[r] = Num.plain(NAN, 0);
        return true;
    }

    int loadScaled(int r, long v, int shift, int mode) {
        if (none(r) || noMode(mode) || shift < -300 || shift > 300) {
            return 9;
        }
        if (v == 0) {
            return keep(r, Num.plain(ZERO, 1));
        }
        BigInteger size = BigInteger.valueOf(v);
        return round(r, shift < 0 ? Num.of(size, power(-shift)) : Num.of(size.shiftLeft(shift), ONE), 1, mode);
    }

    int copy(int d, int x, int mode) {
        return none(d) || none(x) || noMode(mode) ? 9 : round(d, value[x], 1, mode);
    }

    int negate(int d, int x, int mode) {
        return none(d) || none(x) || noMode(mode) ? 9 : round(d, value[x].turned(), 1, mode);
    }

    int add(int d, int x, int y, int mode) {
        return none(d) || none(x) || none(y) || noMode(mode) ? 9 : round(d, sum(value[x], value[y], mode), 1, mode);
    }

    int sub(int d, int x, int y, int mode) {
        return none(d) || none(x) || none(y) || noMode(mode)
                ? 9 : round(d, sum(value[x], value[y].turned(), mode), 1, mode);
    }

    int mul(int d, int x, int y, int mode) {
        return none(d) || none(x) || none(y) || noMode(mode) ? 9 : round(d, product(value[x], value[y]), 1, mode);
    }

    int div(int d, int x, int y, int mode) {
        return none(d) || none(x) || none(y) || noMode(mode) ? 9 : round(d, quotient(value[x], value[y]), 1, mode);
    }

    int sqrt(int d, int x, int mode) {
        if (none(d) || none(x) || noMode(mode)) {
            return 9;
        }
        Num a = value[x];
        return a.kind != ZERO && a.sign < 0 ? keep(d, Num.plain(NAN, 0)) : round(d, a, 2, mode);
    }

    int fma(int d, int x, int y, int z, int mode) {
        return none(d) || none(x) || none(y) || none(z) || noMode(mode)
                ? 9 : round(d, sum(product(value[x], value[y]), value[z], mode), 1, mode);
    }

    int cmp(int x, int y) {
        if (none(x) || none(y) || value[x].kind == NAN || value[y].kind == NAN) {
            return 2;
        }
        Num a = value[x];
        Num b = value[y];
        int farA = a.kind == INFINITE ? a.sign : 0;
        int farB = b.kind == INFINITE ? b.sign : 0;
        if (farA != farB) {
            return farA < farB ? -1 : 1;
        }
        return a.signedAbove().multiply(b.below).compareTo(b.signedAbove().multiply(a.below));
    }

    int kindOf(int r) {
        return none(r) ? -1 : value[r].kind;
    }

    int signOf(int r) {
        return none(r) ? 0 : value[r].sign;
    }

    int expOf(int r) {
        return none(r) || value[r].kind != REGULAR ? 0 : exponent(value[r].above, value[r].below, 1);
    }

    int mantBit(int r, int i) {
        if (none(r) || value[r].kind != REGULAR || i < 0 || i >= prec[r]) {
            return -1;
        }
        BigInteger m = scaled(value[r].above, value[r].below, prec[r] - expOf(r));
        return m.testBit(prec[r] - 1 - i) ? 1 : 0;
    }

    long whole(int r, int mode) {
        if (none(r) || noMode(mode) || value[r].kind == NAN || value[r].kind == ZERO) {
            return 0;
        }
        Num a = value[r];
        if (a.kind == INFINITE) {
            return a.sign > 0 ? Long.MAX_VALUE : Long.MIN_VALUE;
        }
        BigInteger[] parts = a.above.divideAndRemainder(a.below);
        int half = parts[1].shiftLeft(1).compareTo(a.below);
        boolean more = switch (mode) {
            case 0 -> half > 0 || half == 0 && parts[0].testBit(0);
            case 1 -> false;
            case 2 -> a.sign > 0;
            case 3 -> a.sign < 0;
            default -> true;
        };
        BigInteger size = more && parts[1].signum() != 0 ? parts[0].add(ONE) : parts[0];
        BigInteger all = a.sign < 0 ? size.negate() : size;
        return all.min(GREATEST).max(LEAST).longValueExact();
    }

    private static boolean none(int r) {
        return r < 0 || r > 7;
    }

    private static boolean noMode(int mode) {
        return mode < 0 || mode > 4;
    }

    private static BigInteger power(int exponent) {
        return ONE.shiftLeft(exponent);
    }

    private static Num sum(Num a, Num b, int mode) {
        int sign = mode == 3 ? -1 : 1;
        if (a.kind == NAN || b.kind == NAN || a.kind == INFINITE && b.kind == INFINITE && a.sign != b.sign) {
            return Num.plain(NAN, 0);
        }
        if (a.kind == INFINITE || b.kind == INFINITE) {
            return a.kind == INFINITE ? a : b;
        }
        if (a.kind == ZERO && b.kind == ZERO) {
            return a.sign == b.sign ? a : Num.plain(ZERO, sign);
        }
        if (a.kind == ZERO || b.kind == ZERO) {
            return a.kind == ZERO ? b : a;
        }
        BigInteger all = a.signedAbove().multiply(b.below).add(b.signedAbove().multiply(a.below));
        return all.signum() == 0 ? Num.plain(ZERO, sign) : Num.of(all, a.below.multiply(b.below));
    }

    private static Num product(Num a, Num b) {
        boolean infinite = a.kind == INFINITE || b.kind == INFINITE;
        boolean zero = a.kind == ZERO || b.kind == ZERO;
        if (a.kind == NAN || b.kind == NAN || infinite && zero) {
            return Num.plain(NAN, 0);
        }
        if (infinite || zero) {
            return Num.plain(infinite ? INFINITE : ZERO, a.sign * b.sign);
        }
        return Num.of(a.signedAbove().multiply(b.signedAbove()), a.below.multiply(b.below));
    }

    private static Num quotient(Num a, Num b) {
        if (a.kind == NAN || b.kind == NAN || a.kind == b.kind && a.kind != REGULAR) {
            return Num.plain(NAN, 0);
        }
        if (a.kind == REGULAR && b.kind == REGULAR) {
            return Num.of(a.signedAbove().multiply(b.below), a.below.multiply(b.signedAbove()));
        }
        return Num.plain(a.kind == INFINITE || b.kind == ZERO ? INFINITE : ZERO, a.sign * b.sign);
    }

    private int keep(int d, Num a) {
        value[d] = a;
        return 0;
    }

    /** c * 2^scale, to the power k, against above / below. */
    private static int against(BigInteger c, int scale, int k, BigInteger above, BigInteger below) {
        BigInteger left = c.pow(k).multiply(below);
        return scale < 0
                ? left.compareTo(above.shiftLeft(-scale * k))
                : left.shiftLeft(scale * k).compareTo(above);
    }

    /** The e for which 2^(e - 1) <= t < 2^e, t being the k-th root of above / below. */
    private static int exponent(BigInteger above, BigInteger below, int k) {
        int e = (above.bitLength() - below.bitLength()) / k - 3;
        while (against(ONE, e, k, above, below) <= 0) {
            e++;
        }
        return e;
    }

    /** above / below * 2^shift without what is behind the point. */
    private static BigInteger scaled(BigInteger above, BigInteger below, int shift) {
        return shift < 0 ? above.divide(below.shiftLeft(-shift)) : above.shiftLeft(shift).divide(below);
    }

    /** Rounds the k-th root of a into register d. */
    private int round(int d, Num a, int k, int mode) {
        if (a.kind != REGULAR) {
            return keep(d, a);
        }
        int p = prec[d];
        int e = exponent(a.above, a.below, k);
        int unit = e - p;
        BigInteger f = scaled(a.above, a.below, -unit * k);
        f = k == 2 ? f.sqrt() : f;
        boolean isExact = against(f, unit, k, a.above, a.below) == 0;
        boolean toZero = mode == 1 || mode == 2 && a.sign < 0 || mode == 3 && a.sign > 0;
        boolean grows = !isExact && !toZero;
        if (mode == 0 && !isExact) {
            int middle = against(f.shiftLeft(1).add(ONE), unit - 1, k, a.above, a.below);
            boolean odd = p == 1 ? e % 2 != 0 : f.testBit(0);
            grows = middle < 0 || middle == 0 && odd;
        }
        BigInteger m = grows ? f.add(ONE) : f;
        int reached = m.bitLength() + unit;
        if (reached > 200) {
            return keepBeyond(d, a.sign, toZero);
        }
        if (reached < -200) {
            boolean small = against(ONE, -202, k, a.above, a.below) >= 0;
            boolean gone = toZero || mode == 0 && small;
            value[d] = gone ? Num.plain(ZERO, a.sign) : new Num(REGULAR, a.sign, ONE, power(201));
            return gone ? -a.sign : a.sign;
        }
        value[d] = unit < 0
                ? new Num(REGULAR, a.sign, m, power(-unit)) : new Num(REGULAR, a.sign, m.shiftLeft(unit), ONE);
        return isExact ? 0 : grows ? a.sign : -a.sign;
    }

    private int keepBeyond(int d, int sign, boolean toZero) {
        value[d] = toZero
                ? new Num(REGULAR, sign, power(prec[d]).subtract(ONE).shiftLeft(200 - prec[d]), ONE)
                : Num.plain(INFINITE, sign);
        return toZero ? -sign : sign;
    }
}
