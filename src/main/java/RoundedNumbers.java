import java.util.Arrays;

/**
 * Eight registers of binary numbers, each with its own precision; every operation is worked out
 * exactly (or far enough that nothing rounds differently) and rounded once, into the register
 * that it stores in.
 */
public final class RoundedNumbers {
    private static final int REGISTERS = 8;
    private static final int MAX_PREC = 93;
    private static final int MAX_EXP = 200;
    private static final int MIN_EXP = -200;
    private static final int MAX_SHIFT = 300;
    private static final int LONG_BITS = 63;
    private static final long GREATEST_LONG = 0x7fffffffffffffffL;
    private static final long LEAST_LONG = -GREATEST_LONG - 1;

    private static final int NAN = 0;
    private static final int INFINITE = 1;
    private static final int ZERO = 2;
    private static final int REGULAR = 3;

    private static final int NEAREST = 0;
    private static final int TO_ZERO = 1;
    private static final int UP = 2;
    private static final int DOWN = 3;
    private static final int AWAY = 4;

    private static final int REFUSED = 9;
    private static final int NOT_COMPARED = 2;

    // Limbs of 31 bits are never negative as ints, a product of two leaves room for a carry in a
    // long, and three of them hold the greatest precision exactly.
    private static final int LIMB_BITS = 31;
    private static final int LIMB_MASK = 0x7fffffff;
    private static final int VALUE_LIMBS = 3;

    // Wide enough for every exact sum and product: the lowest bit of a product weighs 2^-586 or
    // more, and the highest of a sum of products less than 2^401; what is above is for the sign.
    // The highest bit of what is rounded weighs 2^-402 or more, and rounding looks at most 93 bits
    // below it, so that no weight ever lies outside the row.
    private static final int EXACT_LIMBS = 33;
    private static final int FRACTION_LIMBS = 19;
    private static final int LOWEST_WEIGHT = -FRACTION_LIMBS * LIMB_BITS;

    // Two more than the greatest precision, and one because a quotient's first bit may be 0: then
    // no number between two steps of the last bit is rounded otherwise than any other there.
    private static final int DIGITS = MAX_PREC + 3;

    private final int[] precisions = new int[REGISTERS];
    private final Value[] registers = new Value[REGISTERS];
    private final Value loaded = new Value(VALUE_LIMBS);
    private final Value product = new Value(2 * VALUE_LIMBS);
    private final Exact exact = new Exact();
    private final Wide remainder = new Wide();
    private final Wide divisor = new Wide();
    private final Wide root = new Wide();

    public RoundedNumbers(int bits) {
        Arrays.fill(precisions, Math.max(1, Math.min(MAX_PREC, bits)));
        for (int r = 0; r < REGISTERS; r++) {
            registers[r] = new Value(VALUE_LIMBS);
        }
    }

    public boolean setPrec(int r, int bits) {
        if (!isRegister(r) || bits < 1 || bits > MAX_PREC) {
            return false;
        }
        precisions[r] = bits;
        registers[r].become(NAN, 0);
        return true;
    }

    public int loadInt(int r, int v, int mode) {
        if (!isTarget(r, mode)) {
            return REFUSED;
        }
        return storeLoaded(r, v, 0, mode);
    }

    public int loadScaled(int r, long v, int shift, int mode) {
        if (!isTarget(r, mode) || shift < -MAX_SHIFT || shift > MAX_SHIFT) {
            return REFUSED;
        }
        return storeLoaded(r, v, shift, mode);
    }

    public int copy(int d, int x, int mode) {
        if (!isTarget(d, mode) || !isRegister(x)) {
            return REFUSED;
        }
        return storeValue(d, registers[x], registers[x].sign, mode);
    }

    public int negate(int d, int x, int mode) {
        if (!isTarget(d, mode) || !isRegister(x)) {
            return REFUSED;
        }
        return storeValue(d, registers[x], -registers[x].sign, mode);
    }

    public int add(int d, int x, int y, int mode) {
        if (!isTarget(d, mode) || !isRegister(x) || !isRegister(y)) {
            return REFUSED;
        }
        return storeSum(d, registers[x], registers[y], registers[y].sign, mode);
    }

    public int sub(int d, int x, int y, int mode) {
        if (!isTarget(d, mode) || !isRegister(x) || !isRegister(y)) {
            return REFUSED;
        }
        return storeSum(d, registers[x], registers[y], -registers[y].sign, mode);
    }

    public int mul(int d, int x, int y, int mode) {
        if (!isTarget(d, mode) || !isRegister(x) || !isRegister(y)) {
            return REFUSED;
        }
        product.takeProduct(registers[x], registers[y]);
        return storeValue(d, product, product.sign, mode);
    }

    public int div(int d, int x, int y, int mode) {
        if (!isTarget(d, mode) || !isRegister(x) || !isRegister(y)) {
            return REFUSED;
        }
        Value above = registers[x];
        Value below = registers[y];
        int kind = quotientKind(above.kind, below.kind);
        int sign = above.sign * below.sign;
        if (kind != REGULAR) {
            return storePlain(d, kind, sign);
        }
        workOutQuotient(above, below);
        return storeExact(d, sign, mode);
    }

    public int sqrt(int d, int x, int mode) {
        if (!isTarget(d, mode) || !isRegister(x)) {
            return REFUSED;
        }
        Value square = registers[x];
        if (square.kind == NAN || square.kind == ZERO) {
            return storePlain(d, square.kind, square.sign);
        }
        if (square.sign < 0) {
            return storePlain(d, NAN, 0);
        }
        if (square.kind == INFINITE) {
            return storePlain(d, INFINITE, square.sign);
        }
        workOutRoot(square);
        return storeExact(d, 1, mode);
    }

    public int fma(int d, int x, int y, int z, int mode) {
        if (!isTarget(d, mode) || !isRegister(x) || !isRegister(y) || !isRegister(z)) {
            return REFUSED;
        }
        product.takeProduct(registers[x], registers[y]);
        return storeSum(d, product, registers[z], registers[z].sign, mode);
    }

    public int cmp(int x, int y) {
        if (!isRegister(x) || !isRegister(y)) {
            return NOT_COMPARED;
        }
        Value left = registers[x];
        Value right = registers[y];
        if (left.kind == NAN || right.kind == NAN) {
            return NOT_COMPARED;
        }
        if (left.kind == INFINITE || right.kind == INFINITE) {
            return Integer.compare(left.infiniteSign(), right.infiniteSign());
        }
        exact.clear();
        exact.gather(left, left.sign);
        exact.gather(right, -right.sign);
        return exact.splitSign();
    }

    public int kindOf(int r) {
        return isRegister(r) ? registers[r].kind : -1;
    }

    public int signOf(int r) {
        return isRegister(r) ? registers[r].sign : 0;
    }

    public int expOf(int r) {
        return isRegular(r) ? registers[r].exponent() : 0;
    }

    public int mantBit(int r, int i) {
        if (!isRegular(r) || i < 0 || i >= precisions[r]) {
            return -1;
        }
        return registers[r].bitFromTop(i);
    }

    public long whole(int r, int mode) {
        if (!isTarget(r, mode)) {
            return 0;
        }
        Value value = registers[r];
        if (value.kind == NAN || value.kind == ZERO) {
            return 0;
        }
        if (value.kind == INFINITE || value.exponent() > LONG_BITS) {
            return value.sign > 0 ? GREATEST_LONG : LEAST_LONG;
        }
        exact.clear();
        exact.gather(value, 1);
        exact.roundAt(0, modeOnSize(mode, value.sign), exact.bit(0) == 1);
        // A size of 2^63 wraps to the least long: due when negative, beyond when positive.
        long size = exact.wholePart();
        if (value.sign < 0) {
            return -size;
        }
        return size < 0 ? GREATEST_LONG : size;
    }

    private static boolean isRegister(int r) {
        return r >= 0 && r < REGISTERS;
    }

    private static boolean isTarget(int r, int mode) {
        return isRegister(r) && mode >= NEAREST && mode <= AWAY;
    }

    private boolean isRegular(int r) {
        return isRegister(r) && registers[r].kind == REGULAR;
    }

    /** UP and DOWN, told as what they do to the size of a number with this sign. */
    private static int modeOnSize(int mode, int sign) {
        if (mode == UP) {
            return sign > 0 ? AWAY : TO_ZERO;
        }
        if (mode == DOWN) {
            return sign > 0 ? TO_ZERO : AWAY;
        }
        return mode;
    }

    private static int productKind(int x, int y) {
        if (x == NAN || y == NAN) {
            return NAN;
        }
        if (x == INFINITE || y == INFINITE) {
            return x == ZERO || y == ZERO ? NAN : INFINITE;
        }
        return x == ZERO || y == ZERO ? ZERO : REGULAR;
    }

    private static int quotientKind(int x, int y) {
        if (x == NAN || y == NAN) {
            return NAN;
        }
        if (x == y && x != REGULAR) {
            return NAN;
        }
        if (x == INFINITE || y == ZERO) {
            return INFINITE;
        }
        return x == ZERO || y == INFINITE ? ZERO : REGULAR;
    }

    private static int signOfNothing(int mode) {
        return mode == DOWN ? -1 : 1;
    }

    /** Stores what needs no rounding, whose order is 0. */
    private int storePlain(int d, int kind, int sign) {
        registers[d].become(kind, kind == NAN ? 0 : sign);
        return 0;
    }

    private int storeLoaded(int d, long v, int shift, int mode) {
        loaded.takeScaled(v, shift);
        return storeValue(d, loaded, loaded.sign, mode);
    }

    private int storeValue(int d, Value x, int sign, int mode) {
        if (x.kind != REGULAR) {
            return storePlain(d, x.kind, sign);
        }
        exact.clear();
        exact.gather(x, 1);
        return storeExact(d, sign, mode);
    }

    /** The sum of x and of y, y taken with the sign ySign. */
    private int storeSum(int d, Value x, Value y, int ySign, int mode) {
        if (x.kind == NAN || y.kind == NAN) {
            return storePlain(d, NAN, 0);
        }
        if (x.kind == INFINITE && y.kind == INFINITE && x.sign != ySign) {
            return storePlain(d, NAN, 0);
        }
        if (x.kind == INFINITE || y.kind == INFINITE) {
            return storePlain(d, INFINITE, x.kind == INFINITE ? x.sign : ySign);
        }
        if (x.kind == ZERO && y.kind == ZERO) {
            return storePlain(d, ZERO, x.sign == ySign ? ySign : signOfNothing(mode));
        }
        exact.clear();
        exact.gather(x, x.sign);
        exact.gather(y, ySign);
        int sign = exact.splitSign();
        if (sign == 0) {
            return storePlain(d, ZERO, signOfNothing(mode));
        }
        return storeExact(d, sign, mode);
    }

    /** Rounds the size that exact holds, which is not 0, with this sign; answers the order. */
    private int storeExact(int d, int sign, int mode) {
        int prec = precisions[d];
        int sizeMode = modeOnSize(mode, sign);
        int top = exact.topWeight();
        int last = top - prec + 1;
        // Asked before rounding, which might bring the size down to the bound itself.
        boolean nearZero = !exact.isAbovePower(MIN_EXP - 2);
        boolean tieGrows = prec == 1 ? isOdd(top + 1) : exact.bit(last) == 1;
        int change = exact.roundAt(last, sizeMode, tieGrows);
        int exponent = exact.topWeight() + 1;
        if (exponent > MAX_EXP) {
            return storeHuge(d, sign, sizeMode);
        }
        if (exponent < MIN_EXP) {
            return storeTiny(d, sign, sizeMode == TO_ZERO || sizeMode == NEAREST && nearZero);
        }
        exact.storeInto(registers[d], sign);
        return change * sign;
    }

    private static boolean isOdd(int exponent) {
        return (exponent & 1) == 1;
    }

    private int storeHuge(int d, int sign, int sizeMode) {
        if (sizeMode != TO_ZERO) {
            registers[d].become(INFINITE, sign);
            return sign;
        }
        exact.clear();
        exact.addPower(MAX_EXP, 1);
        exact.addPower(MAX_EXP - precisions[d], -1);
        exact.storeInto(registers[d], sign);
        return -sign;
    }

    private int storeTiny(int d, int sign, boolean toZero) {
        if (toZero) {
            registers[d].become(ZERO, sign);
            return -sign;
        }
        exact.clear();
        exact.addPower(MIN_EXP - 1, 1);
        exact.storeInto(registers[d], sign);
        return sign;
    }

    private void workOutQuotient(Value above, Value below) {
        int weight = above.exponent() - below.exponent();
        exact.clear();
        remainder.take(above);
        divisor.take(below);
        for (int i = 0; i < DIGITS; i++) {
            if (remainder.reaches(divisor)) {
                remainder.lessen(divisor);
                exact.addPower(weight - i, 1);
            }
            remainder.shift(1, 0);
        }
        markRemainder(weight - DIGITS);
    }

    private void workOutRoot(Value square) {
        // An odd exponent is made even by a 0 before the first bit.
        int ahead = square.exponent() & 1;
        int weight = (square.exponent() + ahead) / 2 - 1;
        exact.clear();
        remainder.clear();
        root.clear();
        for (int i = 0; i < DIGITS; i++) {
            int next = 2 * i - ahead;
            remainder.shift(2, 2 * square.bitFromTop(next) + square.bitFromTop(next + 1));
            divisor.takeSame(root);
            divisor.shift(2, 1);
            boolean fits = remainder.reaches(divisor);
            if (fits) {
                remainder.lessen(divisor);
                exact.addPower(weight - i, 1);
            }
            root.shift(1, fits ? 1 : 0);
        }
        markRemainder(weight - DIGITS);
    }

    /** One bit below all digits stands for all that would follow: it rounds as they would. */
    private void markRemainder(int weight) {
        if (!remainder.isNothing()) {
            exact.addPower(weight, 1);
        }
    }

    /**
     * A number: when REGULAR, the sign times the limbs (the lowest first) times 2^low. In a
     * register the limbs are m, shifted up until its highest bit is the highest of all limbs.
     */
    private static final class Value {
        final int[] limbs;
        int kind;
        int sign;
        int low;

        Value(int count) {
            limbs = new int[count];
            kind = NAN;
        }

        void become(int newKind, int newSign) {
            kind = newKind;
            sign = newSign;
        }

        void takeScaled(long v, int shift) {
            become(v == 0 ? ZERO : REGULAR, v < 0 ? -1 : 1);
            // The least long is its own negative; read without a sign it is the right size.
            long size = v < 0 ? -v : v;
            for (int i = 0; i < VALUE_LIMBS; i++) {
                limbs[i] = (int) (size >>> i * LIMB_BITS) & LIMB_MASK;
            }
            low = shift;
        }

        void takeProduct(Value x, Value y) {
            become(productKind(x.kind, y.kind), x.sign * y.sign);
            if (kind != REGULAR) {
                return;
            }
            low = x.low + y.low;
            Arrays.fill(limbs, 0);
            for (int i = 0; i < VALUE_LIMBS; i++) {
                long carry = 0;
                for (int j = 0; j < VALUE_LIMBS; j++) {
                    carry += (long) x.limbs[i] * y.limbs[j] + limbs[i + j];
                    limbs[i + j] = (int) carry & LIMB_MASK;
                    carry >>= LIMB_BITS;
                }
                limbs[i + VALUE_LIMBS] = (int) carry;
            }
        }

        int infiniteSign() {
            return kind == INFINITE ? sign : 0;
        }

        int exponent() {
            return low + MAX_PREC;
        }

        /** Bit i of a register from the highest on; 0 before the first and after the last. */
        int bitFromTop(int i) {
            if (i < 0 || i >= MAX_PREC) {
                return 0;
            }
            int place = MAX_PREC - 1 - i;
            return limbs[place / LIMB_BITS] >> place % LIMB_BITS & 1;
        }
    }

    /**
     * A row of bits that holds any exact sum or product of registers. A bit's WEIGHT is the power
     * of 2 that it stands for. Below 0 it wraps round, until splitSign leaves the size.
     */
    private static final class Exact {
        private final int[] limbs = new int[EXACT_LIMBS];

        Exact() {
        }

        void clear() {
            Arrays.fill(limbs, 0);
        }

        /** Adds x, taken with this sign; nothing unless it is REGULAR. */
        void gather(Value x, int sign) {
            if (x.kind != REGULAR) {
                return;
            }
            int place = x.low - LOWEST_WEIGHT;
            int first = place / LIMB_BITS;
            long factor = (long) sign << place % LIMB_BITS;
            long carry = 0;
            for (int i = Math.max(0, first); i < EXACT_LIMBS; i++) {
                int limb = i - first < x.limbs.length ? x.limbs[i - first] : 0;
                carry += limbs[i] + factor * limb;
                limbs[i] = (int) carry & LIMB_MASK;
                carry >>= LIMB_BITS;
            }
        }

        void addPower(int weight, int sign) {
            int place = weight - LOWEST_WEIGHT;
            long carry = (long) sign << place % LIMB_BITS;
            for (int i = Math.max(0, place / LIMB_BITS); i < EXACT_LIMBS && carry != 0; i++) {
                carry += limbs[i];
                limbs[i] = (int) carry & LIMB_MASK;
                carry >>= LIMB_BITS;
            }
        }

        /** Leaves the size alone, and answers the sign: -1, 0 or 1. */
        int splitSign() {
            if (limbs[EXACT_LIMBS - 1] != 0) {
                turnSign();
                return -1;
            }
            return topWeight() < LOWEST_WEIGHT ? 0 : 1;
        }

        private void turnSign() {
            long carry = 0;
            for (int i = 0; i < EXACT_LIMBS; i++) {
                carry -= limbs[i];
                limbs[i] = (int) carry & LIMB_MASK;
                carry >>= LIMB_BITS;
            }
        }

        /** The weight of the highest 1; one less than the lowest weight when there is none. */
        int topWeight() {
            int i = EXACT_LIMBS - 1;
            while (i > 0 && limbs[i] == 0) {
                i--;
            }
            // The sign bit of the int is no bit of the limb, so a limb of 0 gives -1 here.
            int highest = LIMB_BITS - Integer.numberOfLeadingZeros(limbs[i]);
            return LOWEST_WEIGHT + i * LIMB_BITS + highest;
        }

        int bit(int weight) {
            int place = weight - LOWEST_WEIGHT;
            return limb(place / LIMB_BITS) >> place % LIMB_BITS & 1;
        }

        /** A limb of the row; 0 beyond its ends. */
        private int limb(int i) {
            return i >= 0 && i < EXACT_LIMBS ? limbs[i] : 0;
        }

        boolean isAbovePower(int weight) {
            int top = topWeight();
            return top > weight || top == weight && hasBelow(weight);
        }

        private boolean hasBelow(int weight) {
            int place = weight - LOWEST_WEIGHT;
            for (int i = 0; i < EXACT_LIMBS; i++) {
                if ((limbs[i] & lowestBits(place - i * LIMB_BITS)) != 0) {
                    return true;
                }
            }
            return false;
        }

        private void cutBelow(int weight) {
            int place = weight - LOWEST_WEIGHT;
            for (int i = 0; i < EXACT_LIMBS; i++) {
                limbs[i] &= ~lowestBits(place - i * LIMB_BITS);
            }
        }

        /** The mask of a limb's count lowest bits: of none below 0, of all when it has no more. */
        private static int lowestBits(int count) {
            if (count <= 0) {
                return 0;
            }
            return count < LIMB_BITS ? (1 << count) - 1 : LIMB_MASK;
        }

        /**
         * Rounds the size to a multiple of 2^weight by NEAREST, TO_ZERO or AWAY; answers 1 when it
         * has grown, -1 when it has shrunk, 0 when it was one.
         */
        int roundAt(int weight, int sizeMode, boolean tieGrows) {
            if (!hasBelow(weight)) {
                return 0;
            }
            boolean grows = sizeMode == AWAY;
            if (sizeMode == NEAREST) {
                grows = bit(weight - 1) == 1 && (tieGrows || hasBelow(weight - 1));
            }
            cutBelow(weight);
            if (!grows) {
                return -1;
            }
            addPower(weight, 1);
            return 1;
        }

        /** The bits above the point, for sizes up to 2^63. */
        long wholePart() {
            return limbs[FRACTION_LIMBS]
                    | (long) limbs[FRACTION_LIMBS + 1] << LIMB_BITS
                    | (long) limbs[FRACTION_LIMBS + 2] << 2 * LIMB_BITS;
        }

        /** Makes a register's value of the bits from the highest 1 on. */
        void storeInto(Value register, int sign) {
            int low = topWeight() + 1 - MAX_PREC;
            int place = low - LOWEST_WEIGHT;
            int first = place / LIMB_BITS;
            int shift = place % LIMB_BITS;
            for (int i = 0; i < VALUE_LIMBS; i++) {
                long pair = (long) limb(first + i + 1) << LIMB_BITS | limb(first + i);
                register.limbs[i] = (int) (pair >> shift) & LIMB_MASK;
            }
            register.low = low;
            register.become(REGULAR, sign);
        }
    }

    /** A whole number of up to 124 bits, for digits that are worked out one by one. */
    private static final class Wide {
        // Halves of 62 bits are compared and subtracted as they are, without a thought of signs.
        private static final int HALF_BITS = 2 * LIMB_BITS;
        private static final long HALF_MASK = (1L << HALF_BITS) - 1;

        private long high;
        private long low;

        Wide() {
        }

        void clear() {
            high = 0;
            low = 0;
        }

        void take(Value register) {
            high = register.limbs[2];
            low = (long) register.limbs[1] << LIMB_BITS | register.limbs[0];
        }

        void takeSame(Wide other) {
            high = other.high;
            low = other.low;
        }

        /** Makes room for one or two bits at the low end, and fills it. */
        void shift(int bits, int filling) {
            high = high << bits | low >> HALF_BITS - bits;
            low = low << bits & HALF_MASK | filling;
        }

        boolean reaches(Wide other) {
            return high > other.high || high == other.high && low >= other.low;
        }

        void lessen(Wide other) {
            high -= other.high;
            low -= other.low;
            if (low < 0) {
                low += HALF_MASK + 1;
                high--;
            }
        }

        boolean isNothing() {
            return high == 0 && low == 0;
        }
    }
}
