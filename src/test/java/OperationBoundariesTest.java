import java.math.BigInteger;

/** The boundaries of the promises 5 to 12 for REGULAR parts: other precisions, exponents, ties. */
public final class OperationBoundariesTest extends Checks {
    private static final String STEP_UP = oneAndZeros(91) + "1";

    public static void main(String[] args) {
        copyToAnotherPrecision();
        negateToAnotherPrecision();
        sumsOfFarParts();
        sumsAboveTheExponents();
        sumsBelowTheExponents();
        productsOfAllBits();
        productsAboveTheExponents();
        productsBelowTheExponents();
        quotientsAtATie();
        quotientsBesideATie();
        quotientsAboveTheExponents();
        quotientsBelowTheExponents();
        exactRoots();
        rootsAtATie();
        rootsBesideATie();
        rootsAtTheEnds();
        fmaRoundedOnce();
        fmaAtATie();
        fmaAboveTheExponents();
        fmaBelowTheExponents();
        end();
    }

    private static void copyToAnotherPrecision() {
        says("Promise 5: The value of x, rounded");
        for (int prec = 3; prec <= 93; prec++) {
            exactly(prec, "copy +101e7", "+101" + zeros(prec - 3) + "e7");
        }
        nearF(2, "copy +101e7", "+10e7", "+11e7");
        nearG(1, "copy +111e7", "+1e7", "+1e8");
        exactly(92, "copy +" + ones(92) + "0e-200", "+" + ones(92) + "e-200");
        nearG(92, "copy +" + ones(93) + "e-200", "+" + ones(92) + "e-200", "+" + oneAndZeros(91) + "e-199");
        exactly(93, "copy +" + ones(93) + "e-200", "+" + ones(93) + "e-200");
        nearG(1, "copy +" + ones(93) + "e-200", "+1e-200", "+1e-199");
        nearG(1, "copy " + greatest(93), "+1e200", "+INFINITE");
    }

    private static void negateToAnotherPrecision() {
        says("Promise 6: x with the other sign, rounded");
        for (int prec = 3; prec <= 93; prec++) {
            exactly(prec, "negate -101e7", "+101" + zeros(prec - 3) + "e7");
        }
        nearF(2, "negate -101e7", "+10e7", "+11e7");
        nearG(1, "negate -111e7", "+1e7", "+1e8");
        nearG(92, "negate -" + ones(93) + "e-200", "+" + ones(92) + "e-200", "+" + oneAndZeros(91) + "e-199");
        exactly(93, "negate -" + ones(93) + "e-200", "+" + ones(93) + "e-200");
        nearF(3, "negate -11101e200", "+111e200", "+INFINITE");
        nearG(3, "negate -1111e200", "+111e200", "+INFINITE");
        exactly(3, "negate -1e-200", "+100e-200");
    }

    private static void sumsOfFarParts() {
        says("Promises 7 and 8: a part far below the other still tells");
        for (int e : new int[] {-90, -91, -92, -93, -94, -200}) {
            nearF(3, "add +1e1 +1e" + e, "+100e1", "+101e1");
            nearF(3, "add +1e" + e + " +1e1", "+100e1", "+101e1");
            nearG(3, "sub +1e1 +1e" + e, "+111e0", "+100e1");
            nearG(3, "add +1001e4 +1e" + e, "+100e4", "+101e4");
            nearF(3, "sub +1001e4 +1e" + e, "+100e4", "+101e4");
            nearF(3, "add +1011e4 -1e" + e, "+101e4", "+110e4");
        }
        nearF(93, "add +1e200 +1e-200", "+" + oneAndZeros(92) + "e200", "+" + STEP_UP + "e200");
        nearG(93, "sub +1e200 +1e-200", "+" + ones(93) + "e199", "+" + oneAndZeros(92) + "e200");
        exactly(93, "add +1e1 +1e-91", "+" + STEP_UP + "e1");
        nearF(93, "add +1e1 +1e-92", "+" + oneAndZeros(92) + "e1", "+" + STEP_UP + "e1");
        exactly(93, "sub +1e1 +1e-92", "+" + ones(93) + "e0");
        nearG(93, "sub +1e1 +1e-93", "+" + ones(93) + "e0", "+" + oneAndZeros(92) + "e1");
    }

    private static void sumsAboveTheExponents() {
        says("Promises 7 and 8: sums above the exponents");
        for (String call : new String[] {"add +111e200 +", "sub +111e200 -"}) {
            nearF(3, call + "1e-200", "+111e200", "+INFINITE");
            nearF(3, call + "1e196", "+111e200", "+INFINITE");
            nearF(3, call + ones(93) + "e196", "+111e200", "+INFINITE");
            nearG(3, call + "1e197", "+111e200", "+INFINITE");
            nearG(3, call + STEP_UP + "e197", "+111e200", "+INFINITE");
            nearG(3, call + "1e198", "+111e200", "+INFINITE");
            nearG(3, call + "111e200", "+111e200", "+INFINITE");
        }
        exactly(3, "add +110e200 +1e198", "+111e200");
        exactly(3, "sub +110e200 -1e198", "+111e200");
        nearG(3, "add +1e200 +1e200", "+111e200", "+INFINITE");
        exactly(3, "add +1e199 +1e199", "+100e200");
        nearG(93, "sub " + greatest(93) + " -" + ones(93) + "e200", greatest(93), "+INFINITE");
        exactly(3, "sub +111e200 +111e199", "+111e199");
    }

    private static void sumsBelowTheExponents() {
        says("Promises 7 and 8: sums below the exponents");
        String s = "+100e-200";
        String[][] pairs = {{"sub +", " +"}, {"add +", " -"}};
        for (String[] pair : pairs) {
            exactly(3, pair[0] + "1e-199" + pair[1] + "1e-200", s);
            nearF(3, pair[0] + STEP_UP + "e-199" + pair[1] + "1e-200", s, "+101e-200");
            nearG(3, pair[0] + "1e-199" + pair[1] + STEP_UP + "e-200", "+ZERO", s);
            nearG(3, pair[0] + "111e-200" + pair[1] + "1e-200", "+ZERO", s);
            nearG(3, pair[0] + "11" + zeros(90) + "1e-200" + pair[1] + "1e-200", "+ZERO", s);
            nearF(3, pair[0] + "11e-200" + pair[1] + "1e-200", "+ZERO", s);
            nearF(3, pair[0] + "10" + ones(91) + "e-200" + pair[1] + "1e-200", "+ZERO", s);
            nearF(3, pair[0] + STEP_UP + "e-200" + pair[1] + "1e-200", "+ZERO", s);
        }
    }

    private static void productsOfAllBits() {
        says("Promise 9: a product of all bits, as if it were exact");
        String x = "+" + STEP_UP + "e1";
        // (1 + 2^-92)^2 = 1 + 2^-91 + 2^-184
        String f = "+" + oneAndZeros(90) + "10e1";
        nearF(93, "mul " + x + " " + x, f, "+" + oneAndZeros(90) + "11e1");
        // (2^93 - 1)^2 = 2^186 - 2^94 + 1
        String most = "+" + ones(93) + "e0";
        nearF(93, "mul " + most + " " + most, "+" + ones(92) + "0e0", most);
        nearF(92, "mul " + most + " " + most, "+" + ones(92) + "e0", "+" + oneAndZeros(91) + "e1");
        exactly(92, "mul +" + ones(46) + "e0 +" + ones(46) + "e0", "+" + ones(45) + "0" + zeros(45) + "1e0");
        says("Promise 9: a product at a tie, and a step beside it");
        nearF(3, "mul +11e2 +11e2", "+100e4", "+101e4");
        nearG(3, "mul +11e2 +11" + zeros(90) + "1e2", "+100e4", "+101e4");
        nearF(3, "mul +11e2 +10" + ones(91) + "e2", "+100e4", "+101e4");
        nearG(2, "mul +101e3 +11e2", "+11e4", "+10e5");
        exactly(4, "mul +101e3 +11e2", "+1111e4");
    }

    private static void productsAboveTheExponents() {
        says("Promise 9: products above the exponents");
        exactly(3, "mul +111e100 +1e101", "+111e200");
        nearF(3, "mul +111" + zeros(89) + "1e100 +1e101", "+111e200", "+INFINITE");
        nearF(3, "mul +1110" + ones(89) + "e100 +1e101", "+111e200", "+INFINITE");
        nearG(3, "mul +1111e100 +1e101", "+111e200", "+INFINITE");
        nearG(3, "mul +1111" + zeros(88) + "1e100 +1e101", "+111e200", "+INFINITE");
        nearG(3, "mul +1e101 +1e101", "+111e200", "+INFINITE");
        exactly(3, "mul +1e100 +1e101", "+100e200");
        nearG(3, "mul " + greatest(93) + " " + greatest(93), "+111e200", "+INFINITE");
        nearG(93, "mul " + greatest(93) + " +1e2", greatest(93), "+INFINITE");
        exactly(93, "mul " + greatest(93) + " +1e1", greatest(93));
        nearG(93, "mul " + greatest(93) + " +" + STEP_UP + "e1", greatest(93), "+INFINITE");
    }

    private static void productsBelowTheExponents() {
        says("Promise 9: products below the exponents");
        String s = "+100e-200";
        exactly(3, "mul +1e-99 +1e-100", s);
        nearF(3, "mul +" + STEP_UP + "e-99 +1e-100", s, "+101e-200");
        nearG(3, "mul +" + ones(93) + "e-100 +1e-100", "+ZERO", s);
        nearG(3, "mul +11e-100 +1e-100", "+ZERO", s);
        nearG(3, "mul +" + STEP_UP + "e-100 +1e-100", "+ZERO", s);
        nearF(3, "mul +1e-100 +1e-100", "+ZERO", s);
        nearF(3, "mul +" + ones(93) + "e-101 +1e-100", "+ZERO", s);
        nearF(3, "mul +1e-101 +1e-100", "+ZERO", s);
        nearF(3, "mul +1e-200 +1e-200", "+ZERO", s);
        nearF(93, "mul " + least(93) + " " + least(93), "+ZERO", least(93));
        exactly(93, "mul " + least(93) + " +1e1", least(93));
        nearF(93, "mul " + least(93) + " +1e0", "+ZERO", least(93));
        nearG(93, "mul " + least(93) + " +" + STEP_UP + "e0", "+ZERO", least(93));
    }

    private static void quotientsAtATie() {
        says("Promise 10: a quotient at a tie, and a step beside it");
        nearF(3, "div +1001e4 +1e1", "+100e4", "+101e4");
        nearF(3, "div +1001e4 +" + STEP_UP + "e1", "+100e4", "+101e4");
        nearG(3, "div +1001e4 +" + ones(93) + "e0", "+100e4", "+101e4");
        nearG(3, "div +1011e4 +1e1", "+101e4", "+110e4");
        nearF(3, "div +1011e4 +" + STEP_UP + "e1", "+101e4", "+110e4");
        nearG(92, "div +" + ones(93) + "e1 +1e1", "+" + ones(92) + "e1", "+" + oneAndZeros(91) + "e2");
        nearF(92, "div +" + STEP_UP + "e1 +1e1", "+" + oneAndZeros(91) + "e1", "+" + oneAndZeros(90) + "1e1");
        says("Promise 10: quotients that are exact, and a step beside it");
        exactly(3, "div +1111e4 +101e3", "+110e2");
        nearG(3, "div +1111e4 +101" + zeros(89) + "1e3", "+101e2", "+110e2");
        nearF(3, "div +1111" + zeros(88) + "1e4 +101e3", "+110e2", "+111e2");
        exactly(93, "div +" + STEP_UP + "e1 +" + STEP_UP + "e1", "+" + oneAndZeros(92) + "e1");
        // 1 / (1 + 2^-92) = 1 - 2^-92 + 2^-184 ..
        nearF(93, "div +1e1 +" + STEP_UP + "e1", "+" + ones(92) + "0e0", "+" + ones(93) + "e0");
        // 1 / (1 - 2^-93) = 1 + 2^-93 + 2^-186 ..: just above the tie.
        nearG(93, "div +1e1 +" + ones(93) + "e0", "+" + oneAndZeros(92) + "e1", "+" + STEP_UP + "e1");
        // (1 - 2^-93) / (1 + 2^-92) = 1 - 2^-92 - 2^-93 + 2^-184 ..
        nearF(93, "div +" + ones(93) + "e0 +" + STEP_UP + "e1", "+" + ones(91) + "01e0", "+" + ones(92) + "0e0");
    }

    /**
     * Quotients that lie as near to a tie as any can: y times an odd t of one bit more than the
     * register has is one below or above x times a power of 2.
     */
    private static void quotientsBesideATie() {
        says("Promise 10: quotients that only their remainder tells from a tie");
        for (int prec = 2; prec <= 93; prec++) {
            int found = 0;
            for (int v = 1; v < 30; v++) {
                BigInteger y = BigInteger.TWO.pow(93).subtract(BigInteger.valueOf(2 * v + 1).pow(15));
                BigInteger power = BigInteger.TWO.pow(prec + 1);
                BigInteger rest = BigInteger.valueOf(v % 2 == 0 ? 1 : -1);
                BigInteger t = y.modInverse(power).multiply(rest).mod(power);
                BigInteger x = y.multiply(t).subtract(rest).shiftRight(prec + 1);
                if (t.bitLength() == prec + 1 && x.bitLength() == 93) {
                    found++;
                    besideATie(prec, "div " + value(x, 0) + " " + value(y, 0), t, 0, v % 2 != 0);
                }
            }
            due("quotients were found for " + prec + " bits", found > 0, true);
        }
    }

    private static String value(BigInteger bits, int exponent) {
        return "+" + bits.toString(2) + "e" + exponent;
    }

    /** t is the odd number in the middle of f and g; the result lies just above or below it. */
    private static void besideATie(int prec, String call, BigInteger t, int exponent, boolean above) {
        BigInteger f = t.shiftRight(1);
        BigInteger g = f.add(BigInteger.ONE);
        String next = g.bitLength() > prec ? value(g.shiftRight(1), exponent + 1) : value(g, exponent);
        if (above) {
            nearG(prec, call, value(f, exponent), next);
        } else {
            nearF(prec, call, value(f, exponent), next);
        }
    }

    private static void quotientsAboveTheExponents() {
        says("Promise 10: quotients above the exponents");
        exactly(3, "div +111e100 +1e-99", "+111e200");
        nearG(3, "div +111e100 +" + STEP_UP + "e-99", "+110e200", "+111e200");
        nearF(3, "div +111e100 +" + ones(93) + "e-100", "+111e200", "+INFINITE");
        nearF(3, "div +1111e100 +" + STEP_UP + "e-99", "+111e200", "+INFINITE");
        nearG(3, "div +1111e100 +1e-99", "+111e200", "+INFINITE");
        nearG(3, "div +1111e100 +" + ones(93) + "e-100", "+111e200", "+INFINITE");
        nearG(3, "div +1e101 +" + STEP_UP + "e-99", "+111e200", "+INFINITE");
        nearG(3, "div +1e101 +1e-99", "+111e200", "+INFINITE");
        exactly(3, "div +1e100 +1e-99", "+100e200");
        nearG(3, "div " + greatest(93) + " " + least(93), "+111e200", "+INFINITE");
        exactly(93, "div " + greatest(93) + " +1e1", greatest(93));
        nearG(93, "div " + greatest(93) + " +1e0", greatest(93), "+INFINITE");
    }

    private static void quotientsBelowTheExponents() {
        says("Promise 10: quotients below the exponents");
        String s = "+100e-200";
        exactly(3, "div +1e-100 +1e101", s);
        nearF(3, "div +1e-100 +" + ones(93) + "e100", s, "+101e-200");
        nearG(3, "div +1e-100 +" + STEP_UP + "e101", "+ZERO", s);
        nearG(3, "div +11e-100 +1e102", "+ZERO", s);
        nearG(3, "div +1e-100 +" + ones(93) + "e101", "+ZERO", s);
        nearF(3, "div +1e-100 +1e102", "+ZERO", s);
        nearF(3, "div +1e-100 +" + STEP_UP + "e102", "+ZERO", s);
        nearF(3, "div +1e-100 +1e103", "+ZERO", s);
        nearF(3, "div " + least(93) + " " + greatest(93), "+ZERO", s);
        exactly(93, "div " + least(93) + " +1e1", least(93));
        nearF(93, "div " + least(93) + " +1e2", "+ZERO", least(93));
        nearG(93, "div +" + STEP_UP + "e-200 +1e2", "+ZERO", least(93));
    }

    private static void exactRoots() {
        says("Promise 11: exact roots, and a step beside them");
        exactly(1, "sqrt +1e1", "+1e1");
        exactly(1, "sqrt +1e3", "+1e2");
        exactly(1, "sqrt +1e-1", "+1e0");
        exactly(2, "sqrt +1001e4", "+11e2");
        exactly(3, "sqrt +11001e5", "+101e3");
        exactly(93, "sqrt +110001e6", "+111" + zeros(90) + "e3");
        nearG(3, "sqrt +11000" + ones(88) + "e5", "+100e3", "+101e3");
        nearF(3, "sqrt +11001" + zeros(87) + "1e5", "+101e3", "+110e3");
        // (2^46 + 1)^2 has 93 bits: its root is exact in 47 bits, those of its neighbours in none.
        String root = oneAndZeros(45) + "1";
        exactly(47, "sqrt +1" + zeros(44) + "1" + zeros(46) + "1e93", "+" + root + "e47");
        exactly(93, "sqrt +1" + zeros(44) + "1" + zeros(46) + "1e93", "+" + root + zeros(46) + "e47");
        nearG(47, "sqrt +1" + zeros(44) + "1" + zeros(47) + "e93", "+" + oneAndZeros(46) + "e47", "+" + root + "e47");
        nearF(47, "sqrt +1" + zeros(44) + "1" + zeros(45) + "10e93", "+" + root + "e47",
                "+" + oneAndZeros(44) + "10e47");
    }

    private static void rootsAtATie() {
        says("Promise 11: roots at a tie, and a step beside it");
        // 4.5 * 4.5 = 20.25, 5.5 * 5.5 = 30.25
        nearF(3, "sqrt +1010001e5", "+100e3", "+101e3");
        nearF(3, "sqrt +1010000" + ones(86) + "e5", "+100e3", "+101e3");
        nearG(3, "sqrt +1010001" + zeros(85) + "1e5", "+100e3", "+101e3");
        nearG(3, "sqrt +1111001e5", "+101e3", "+110e3");
        nearF(3, "sqrt +1111000" + ones(86) + "e5", "+101e3", "+110e3");
        nearG(3, "sqrt +1111001" + zeros(85) + "1e5", "+101e3", "+110e3");
        // 1.5 * 1.5 = 2.25, and 3 * 3 = 9: in one bit the even exponent.
        nearG(1, "sqrt +1001e2", "+1e1", "+1e2");
        nearF(1, "sqrt +1001e4", "+1e2", "+1e3");
        nearF(1, "sqrt +1000" + ones(89) + "e2", "+1e1", "+1e2");
        nearG(1, "sqrt +1001" + zeros(88) + "1e4", "+1e2", "+1e3");
        // The root of 1 - 2^-93 is 1 - 2^-94 - 2^-189 ..: just below the tie; 1 + 2^-92: 1 + 2^-93 - ..
        nearF(93, "sqrt +" + ones(93) + "e0", "+" + ones(93) + "e0", "+" + oneAndZeros(92) + "e1");
        nearF(93, "sqrt +" + STEP_UP + "e1", "+" + oneAndZeros(92) + "e1", "+" + STEP_UP + "e1");
    }

    /** Roots that lie as near to a tie as any can: t * t is a little off a number of 93 bits. */
    private static void rootsBesideATie() {
        says("Promise 11: roots that only their remainder tells from a tie");
        for (int prec = 50; prec <= 93; prec++) {
            int found = 0;
            // All that squares of odd numbers leave is 1 modulo 8.
            for (int rest : new int[] {-7, -15, -23, -31, 1, 9, 17, 33}) {
                for (int bits = 2 * prec + 1; bits <= 2 * prec + 2; bits++) {
                    found += rootsBesideATie(prec, rest, bits);
                }
            }
            due("roots were found for " + prec + " bits", found > 0, true);
        }
    }

    /** For each t whose square has so many bits, above a number of 93 bits by rest; how many. */
    private static int rootsBesideATie(int prec, int rest, int bits) {
        int low = bits - 93;
        int found = 0;
        BigInteger off = BigInteger.valueOf(rest);
        BigInteger power = BigInteger.TWO.pow(low);
        BigInteger half = power.shiftRight(1);
        BigInteger root = rootModulo(off, low);
        BigInteger least = BigInteger.TWO.pow(bits - 1).sqrt().add(BigInteger.ONE);
        for (BigInteger same : new BigInteger[] {root, root.add(half), root.negate(), half.subtract(root)}) {
            BigInteger t = least.add(same.subtract(least).mod(power));
            BigInteger square = t.multiply(t).subtract(off);
            if (t.bitLength() == prec + 1 && square.bitLength() == bits) {
                found++;
                besideATie(prec, "sqrt " + value(square.shiftRight(low), bits), t, prec + 1, rest < 0);
            }
        }
        return found;
    }

    /** A number whose square is the given one, which is 1 modulo 8, modulo 2^power. */
    private static BigInteger rootModulo(BigInteger square, int power) {
        BigInteger root = BigInteger.ONE;
        for (int i = 3; i < power; i++) {
            if (root.multiply(root).subtract(square).testBit(i)) {
                root = root.setBit(i - 1);
            }
        }
        return root;
    }

    private static void rootsAtTheEnds() {
        says("Promise 11: roots of the least and of the greatest");
        exactly(1, "sqrt +1e199", "+1e100");
        // The root of 2^199 is 1.0110101.. * 2^99.
        nearG(3, "sqrt +1e200", "+101e100", "+110e100");
        nearG(3, "sqrt " + greatest(93), "+111e100", "+100e101");
        nearF(93, "sqrt " + greatest(93), "+" + ones(93) + "e100", "+" + oneAndZeros(92) + "e101");
        exactly(1, "sqrt +1e-199", "+1e-99");
        // The root of 2^-201 is 1.0110101.. * 2^-101.
        nearG(3, "sqrt +1e-200", "+101e-100", "+110e-100");
        nearG(3, "sqrt " + least(93), "+101e-100", "+110e-100");
        nearF(3, "sqrt +" + STEP_UP + "e-199", "+100e-99", "+101e-99");
    }

    private static void fmaRoundedOnce() {
        says("Promise 12: rounded once");
        // 13 * 11 = 143, which four bits alone would make 144.
        exactly(4, "fma +1101e4 +1011e4 -1001e8", "-1000e1");
        exactly(1, "fma +1101e4 +1011e4 -10001110e8", "+1e1");
        String x = "+" + STEP_UP + "e1";
        // (1 + 2^-92)^2 - (1 + 2^-91) = 2^-184
        exactly(93, "fma " + x + " " + x + " -" + oneAndZeros(90) + "10e1", "+" + oneAndZeros(92) + "e-183");
        // (1 - 2^-93)^2 - (1 - 2^-92) = 2^-186
        String most = "+" + ones(93) + "e0";
        exactly(1, "fma " + most + " " + most + " -" + ones(92) + "0e0", "+1e-185");
    }

    private static void fmaAtATie() {
        says("Promise 12: a tie that a far part moves");
        for (String far : new String[] {"1e-200", "1e-100", ones(93) + "e-2"}) {
            nearG(3, "fma +11e2 +11e2 +" + far, "+100e4", "+101e4");
            nearF(3, "fma +11e2 +11e2 -" + far, "+100e4", "+101e4");
        }
        nearF(3, "fma +11e2 +11e2 +ZERO", "+100e4", "+101e4");
        nearF(3, "fma +11e2 +11e2 -ZERO", "+100e4", "+101e4");
        // The far part is a product below all exponents.
        nearG(3, "fma +1e-200 +1e-200 +1001e4", "+100e4", "+101e4");
        nearF(3, "fma -1e-200 +1e-200 +1001e4", "+100e4", "+101e4");
        nearF(93, "fma +1e-200 +1e-200 " + greatest(93), greatest(93), "+INFINITE");
        nearG(93, "fma -1e-200 +1e-200 " + greatest(93), "+" + ones(92) + "0e200", greatest(93));
        // The far part is z, against a product above all exponents.
        nearG(3, "fma +1e200 +1e200 -1e-200", "+111e200", "+INFINITE");
    }

    private static void fmaAboveTheExponents() {
        says("Promise 12: a product above the exponents, and a sum above them");
        exactly(3, "fma +1e200 +1e2 -1e200", "+100e200");
        exactly(3, "fma +1e101 +1e101 -1e198", "+111e200");
        nearF(3, "fma +1e101 +1e101 -11e197", "+111e200", "+INFINITE");
        nearF(3, "fma +1111e100 +1e101 -1e-200", "+111e200", "+INFINITE");
        nearG(3, "fma +1e101 +1e101 -1e197", "+111e200", "+INFINITE");
        nearG(3, "fma +1111e100 +1e101 +1e-200", "+111e200", "+INFINITE");
        nearG(3, "fma +1e101 +1e101 -1e-200", "+111e200", "+INFINITE");
        nearG(3, "fma +1e101 +1e101 +ZERO", "+111e200", "+INFINITE");
        nearG(3, "fma +11e200 +1e2 -1e200", "+111e200", "+INFINITE");
        nearG(93, "fma " + greatest(93) + " " + greatest(93) + " " + greatest(93), greatest(93), "+INFINITE");
        nearG(93, "fma " + greatest(93) + " " + greatest(93) + " -" + ones(93) + "e200", greatest(93), "+INFINITE");
        butForDown(3, "fma " + greatest(93) + " -1e1 " + greatest(93), "+ZERO 0", "-ZERO 0");
    }

    private static void fmaBelowTheExponents() {
        says("Promise 12: a product below the exponents, and a sum below them");
        String s = "+100e-200";
        exactly(3, "fma +1e-100 +1e-100 +1e-200", "+110e-200");
        exactly(3, "fma -1e-99 +1e-100 +1e-199", s);
        nearF(3, "fma +1e-200 +1e-200 +1e-200", s, "+101e-200");
        nearG(3, "fma -1e-200 +1e-200 +1e-200", "+ZERO", s);
        nearG(3, "fma -" + ones(93) + "e-101 +1e-100 +1e-200", "+ZERO", s);
        nearF(3, "fma -1e-100 +1e-100 +1e-200", "+ZERO", s);
        nearF(3, "fma -" + STEP_UP + "e-100 +1e-100 +1e-200", "+ZERO", s);
        nearF(3, "fma -" + ones(93) + "e-100 +1e-100 +1e-200", "+ZERO", s);
        nearF(3, "fma +1e-100 +1e-100 +ZERO", "+ZERO", s);
        nearG(3, "fma +" + STEP_UP + "e-100 +1e-100 -ZERO", "+ZERO", s);
        nearF(3, "fma " + least(93) + " " + least(93) + " +ZERO", "+ZERO", s);
        butForDown(3, "fma +1e-99 -1e-100 +1e-200", "+ZERO 0", "-ZERO 0");
    }
}
