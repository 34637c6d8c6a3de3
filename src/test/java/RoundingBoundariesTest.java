import java.math.BigInteger;

/** The boundaries in the document's terms: what a REGULAR value is, and TO ROUND. */
public final class RoundingBoundariesTest extends Checks {
    // Beside the ends, where rows of 31 bits begin and end inside the program.
    private static final int[] PRECISIONS = {1, 2, 3, 4, 30, 31, 32, 61, 62, 63, 64, 90, 91};

    public static void main(String[] args) {
        exponents();
        highestBit();
        sizeOfOneExponent();
        becomesF();
        nextGreater();
        nearest();
        nearestAtTheGreatestPrecisions();
        evenExponent();
        aboveTheExponents();
        aboveTheExponentsInOneBit();
        aboveTheExponentsInAllBits();
        belowTheExponents();
        belowTheExponentsInOneBit();
        belowTheExponentsInEveryPrecision();
        order();
        end();
    }

    private static String value(String bits, int exponent) {
        return "+" + bits + "e" + exponent;
    }

    /** The next greater value of as many bits. */
    private static String next(String bits, int exponent) {
        String more = new BigInteger(bits, 2).add(BigInteger.ONE).toString(2);
        return more.length() == bits.length()
                ? value(more, exponent) : value(more.substring(0, bits.length()), exponent + 1);
    }

    private static void exponents() {
        says("Terms: its EXPONENT e is -200 .. 200");
        for (int prec : PRECISIONS) {
            exactly(prec, "load 1 198", value(oneAndZeros(prec - 1), 199));
            exactly(prec, "load 1 199", value(oneAndZeros(prec - 1), 200));
            nearG(prec, "load 1 200", greatest(prec), "+INFINITE");
            exactly(prec, "load 1 -200", value(oneAndZeros(prec - 1), -199));
            exactly(prec, "load 1 -201", least(prec));
            nearF(prec, "load 1 -202", "+ZERO", least(prec));
        }
    }

    private static void highestBit() {
        says("Terms: m being a whole number of p bits with a highest bit of 1");
        exactly(3, "load 1 0", "+100e1");
        exactly(93, "load -1 0", "-" + oneAndZeros(92) + "e1");
        exactly(93, "sub +" + oneAndZeros(91) + "1e1 +1e1", value(oneAndZeros(92), -91));
        exactly(93, "sub +1e1 +" + ones(93) + "e0", value(oneAndZeros(92), -92));
        exactly(2, "sub +" + ones(93) + "e200 +" + ones(92) + "0e200", "+10e108");
    }

    private static void sizeOfOneExponent() {
        says("Terms: it is 2^(e - 1) or more, and less than 2^e");
        for (int e : new int[] {-200, -199, -1, 0, 1, 2, 199, 200}) {
            String half = value(oneAndZeros(92), e);
            String most = value(ones(93), e);
            exactly(93, "copy " + half, half);
            exactly(93, "copy " + most, most);
        }
        exactly(93, "load 1 0", value(oneAndZeros(92), 1));
        exactly(93, "load 1 -1", value(oneAndZeros(92), 0));
        exactly(93, "sub +1e1 +1e-92", value(ones(93), 0));
        exactly(93, "add " + value(ones(93), 0) + " +1e-92", value(oneAndZeros(92), 1));
    }

    private static void becomesF() {
        says("TO ROUND: it becomes f if that is t's size");
        for (int prec : PRECISIONS) {
            String f = value(ones(prec), 5);
            exactly(prec, "copy " + value(ones(prec) + zeros(93 - prec), 5), f);
            nearF(prec, "copy " + value(ones(prec) + zeros(92 - prec) + "1", 5), f, next(ones(prec), 5));
        }
        for (int prec = 2; prec <= 91; prec++) {
            String below = value(ones(prec - 1) + "0", -3);
            nearG(prec, "copy " + value(ones(prec - 1) + "0" + ones(93 - prec), -3), below, value(ones(prec), -3));
        }
        exactly(1, "load 4 0", "+1e3");
        nearG(1, "load 31 -3", "+1e2", "+1e3");
        nearF(1, "load 33 -3", "+1e3", "+1e4");
        for (int prec : new int[] {92, 93}) {
            String f = value(ones(prec), 5);
            exactly(prec, "copy " + f, f);
            nearF(prec, "add " + f + " +1e-200", f, value(oneAndZeros(prec - 1), 6));
            nearG(prec, "add " + f + " -1e-200", value(ones(prec - 1) + "0", 5), f);
        }
    }

    private static void nextGreater() {
        says("TO ROUND: and g the next greater one");
        for (int prec = 2; prec <= 92; prec++) {
            // All ones and a half: the carry goes through all bits, into the next exponent.
            nearG(prec, "copy " + value(ones(prec + 1), 0), value(ones(prec), 0), value(oneAndZeros(prec - 1), 1));
        }
        for (int prec = 3; prec <= 92; prec++) {
            String f = "10" + ones(prec - 2);
            nearG(prec, "copy " + value(f + "1", 0), value(f, 0), value("11" + zeros(prec - 2), 0));
        }
        nearG(3, "load 31 0", "+111e5", "+100e6");
        nearG(3, "load 15 -4", "+111e0", "+100e1");
        nearF(3, "load 29 0", "+111e5", "+100e6");
    }

    private static void nearest() {
        says("TO ROUND: for NEAREST the one that lies nearer, of both the one whose lowest bit of m is 0");
        for (int prec = 2; prec <= 91; prec++) {
            for (String f : new String[] {oneAndZeros(prec - 1), ones(prec), oneAndZeros(prec - 2) + "1"}) {
                nearF(prec, "copy " + value(f + "0" + ones(92 - prec), 7), value(f, 7), next(f, 7));
                nearG(prec, "copy " + value(f + "1" + zeros(91 - prec) + "1", 7), value(f, 7), next(f, 7));
                tie(prec, "copy " + value(f + "1", 7), f, 7);
            }
        }
        for (int v = 8; v < 16; v++) {
            String f = Integer.toBinaryString(v);
            nearF(4, "load " + (8 * v + 3) + " 0", value(f, 7), next(f, 7));
            tie(4, "load " + (8 * v + 4) + " 0", f, 7);
            nearG(4, "load " + (8 * v + 5) + " 0", value(f, 7), next(f, 7));
        }
    }

    private static void tie(int prec, String call, String f, int exponent) {
        if (f.endsWith("0")) {
            nearF(prec, call, value(f, exponent), next(f, exponent));
        } else {
            nearG(prec, call, value(f, exponent), next(f, exponent));
        }
    }

    private static void nearestAtTheGreatestPrecisions() {
        says("TO ROUND, 92 and 93 bits: for NEAREST the one that lies nearer");
        for (String f : new String[] {oneAndZeros(91), ones(92), oneAndZeros(90) + "1"}) {
            String middle = value(f + "1", 7);
            nearF(92, "add " + middle + " -1e-200", value(f, 7), next(f, 7));
            tie(92, "copy " + middle, f, 7);
            nearG(92, "add " + middle + " +1e-200", value(f, 7), next(f, 7));
        }
        for (String f : new String[] {oneAndZeros(92), ones(93), oneAndZeros(91) + "1"}) {
            String add = "add " + value(f, 7) + " ";
            nearF(93, add + value(ones(93), -87), value(f, 7), next(f, 7));
            tie(93, add + "+1e-86", f, 7);
            nearG(93, add + value(oneAndZeros(91) + "1", -86), value(f, 7), next(f, 7));
        }
    }

    private static void evenExponent() {
        says("TO ROUND: (for p = 1 the one with the even exponent)");
        for (int e = -200; e <= 200; e++) {
            String f = "+1e" + e;
            String g = e == 200 ? "+INFINITE" : "+1e" + (e + 1);
            nearF(1, "copy " + value("10" + ones(91), e), f, g);
            if (e % 2 == 0) {
                nearF(1, "copy " + value("11", e), f, g);
            } else {
                nearG(1, "copy " + value("11", e), f, g);
            }
            nearG(1, "copy " + value("11" + zeros(90) + "1", e), f, g);
        }
    }

    private static void aboveTheExponents() {
        says("TO ROUND: when its exponent is above 200: .. the greatest REGULAR one .. otherwise INFINITE");
        for (int prec = 2; prec <= 91; prec++) {
            String most = greatest(prec);
            String all = ones(prec);
            exactly(prec, "copy " + value(all + zeros(93 - prec), 200), most);
            nearF(prec, "copy " + value(all + zeros(92 - prec) + "1", 200), most, "+INFINITE");
            nearF(prec, "copy " + value(all + "0" + ones(92 - prec), 200), most, "+INFINITE");
            nearG(prec, "copy " + value(all + "1", 200), most, "+INFINITE");
            nearG(prec, "copy " + value(all + "1" + zeros(91 - prec) + "1", 200), most, "+INFINITE");
            nearG(prec, "copy " + greatest(93), most, "+INFINITE");
        }
        for (String beyond : new String[] {"1 200", "5 198", "1 201", "1 300", Long.MAX_VALUE + " 300"}) {
            nearG(3, "load " + beyond, "+111e200", "+INFINITE");
            nearG(93, "load " + beyond, greatest(93), "+INFINITE");
        }
        nearF(3, "load 25 195", "+110e200", "+111e200");
        nearG(3, "load 27 195", "+110e200", "+111e200");
        exactly(3, "load 7 197", "+111e200");
        nearF(3, "load 29 195", "+111e200", "+INFINITE");
        nearG(3, "load 15 196", "+111e200", "+INFINITE");
        inEveryLeastLong(3, 136, "-100e200 0", "-100e200 0");
        inEveryLeastLong(3, 137, "-111e200 1", "-INFINITE -1");
    }

    /** The least long has no mirror image: what is due when rounded to ZERO or UP, and otherwise. */
    private static void inEveryLeastLong(int prec, int shift, String inside, String outside) {
        for (int mode = NEAREST; mode <= AWAY; mode++) {
            inMode(prec, mode, "load " + Long.MIN_VALUE + " " + shift, mode == TO_ZERO || mode == UP ? inside : outside);
        }
    }

    private static void aboveTheExponentsInOneBit() {
        says("TO ROUND, one bit: when its exponent is above 200");
        exactly(1, "load 1 199", "+1e200");
        nearF(1, "load 5 197", "+1e200", "+INFINITE");
        nearF(1, "load 3 198", "+1e200", "+INFINITE");
        nearG(1, "load 25 195", "+1e200", "+INFINITE");
        nearG(1, "load 7 197", "+1e200", "+INFINITE");
        nearG(1, "load 1 200", "+1e200", "+INFINITE");
        nearG(1, "load 1 201", "+1e200", "+INFINITE");
        nearG(1, "load 3 197", "+1e199", "+1e200");
    }

    private static void aboveTheExponentsInAllBits() {
        says("TO ROUND, 92 and 93 bits: when its exponent is above 200");
        nearF(92, "add " + greatest(93) + " -1e-200", greatest(92), "+INFINITE");
        nearG(92, "copy " + greatest(93), greatest(92), "+INFINITE");
        nearG(92, "add " + greatest(93) + " +1e-200", greatest(92), "+INFINITE");
        exactly(93, "copy " + greatest(93), greatest(93));
        nearG(93, "add " + greatest(93) + " -1e-200", value(ones(92) + "0", 200), greatest(93));
        nearF(93, "add " + greatest(93) + " +1e-200", greatest(93), "+INFINITE");
        nearF(93, "add " + greatest(93) + " " + value(ones(93), 106), greatest(93), "+INFINITE");
        nearG(93, "add " + greatest(93) + " +1e107", greatest(93), "+INFINITE");
        nearG(93, "add " + greatest(93) + " " + value(oneAndZeros(91) + "1", 107), greatest(93), "+INFINITE");
        nearG(93, "add " + greatest(93) + " +1e108", greatest(93), "+INFINITE");
    }

    private static void belowTheExponents() {
        says("TO ROUND: when its exponent is below -200: .. not above s / 2, it is ZERO, otherwise s");
        String s = "+100e-200";
        exactly(3, "load 5 -203", "+101e-200");
        nearF(3, "load 17 -205", s, "+101e-200");
        nearF(3, "load 9 -204", s, "+101e-200");
        exactly(3, "load 1 -201", s);
        // Rounded to s itself by NEAREST, and so not below the exponents.
        nearG(3, "load " + Long.MAX_VALUE + " -264", "+ZERO", s);
        nearG(3, "load 31 -206", "+ZERO", s);
        nearG(3, "load 15 -205", "+ZERO", s);
        nearG(3, "load 29 -206", "+ZERO", s);
        nearG(3, "load 7 -204", "+ZERO", s);
        nearG(3, "load 3 -203", "+ZERO", s);
        nearG(3, "load 5 -204", "+ZERO", s);
        // Above the half, though its rounded bits are those of the half.
        nearG(3, "load 9 -205", "+ZERO", s);
        nearG(3, "load " + ((1L << 62) + 1) + " -264", "+ZERO", s);
        nearF(3, "load 1 -202", "+ZERO", s);
        // Below the half, though its rounded bits are those of the half.
        nearF(3, "load " + ((1L << 62) - 1) + " -264", "+ZERO", s);
        nearF(3, "load 31 -207", "+ZERO", s);
        nearF(3, "load 7 -205", "+ZERO", s);
        nearF(3, "load 3 -204", "+ZERO", s);
        nearF(3, "load 1 -203", "+ZERO", s);
        nearF(3, "load 1 -300", "+ZERO", s);
        inEveryLeastLong(3, -264, "-100e-200 0", "-100e-200 0");
        for (int mode = NEAREST; mode <= AWAY; mode++) {
            boolean gone = mode != DOWN && mode != AWAY;
            inMode(3, mode, "load " + Long.MIN_VALUE + " -265", gone ? "-ZERO 1" : "-100e-200 -1");
        }
    }

    private static void belowTheExponentsInOneBit() {
        says("TO ROUND, one bit: when its exponent is below -200");
        exactly(1, "load 1 -201", "+1e-200");
        nearF(1, "load 3 -202", "+1e-200", "+1e-199");
        nearG(1, "load 7 -204", "+ZERO", "+1e-200");
        nearG(1, "load 3 -203", "+ZERO", "+1e-200");
        nearG(1, "load 5 -204", "+ZERO", "+1e-200");
        nearG(1, "load 17 -206", "+ZERO", "+1e-200");
        nearF(1, "load 1 -202", "+ZERO", "+1e-200");
        nearF(1, "load 7 -205", "+ZERO", "+1e-200");
        nearF(1, "load 3 -204", "+ZERO", "+1e-200");
        nearF(1, "load 1 -300", "+ZERO", "+1e-200");
    }

    private static void belowTheExponentsInEveryPrecision() {
        says("TO ROUND, each precision: when its exponent is below -200");
        for (int prec = 1; prec <= 93; prec++) {
            String s = least(prec);
            exactly(prec, "sub +1e-199 +1e-200", s);
            nearG(prec, "sub +1e-199 " + value(oneAndZeros(91) + "1", -200), "+ZERO", s);
            nearG(prec, "sub " + value("11" + zeros(90) + "1", -200) + " +1e-200", "+ZERO", s);
            nearF(prec, "sub +11e-200 +1e-200", "+ZERO", s);
            nearF(prec, "sub " + value("10" + ones(91), -200) + " +1e-200", "+ZERO", s);
            nearF(prec, "sub " + value(oneAndZeros(91) + "1", -200) + " +1e-200", "+ZERO", s);
        }
    }

    private static void order() {
        says("TO ROUND: the ORDER is 1 when what is stored is above t, -1 when it is below, 0 when it is t");
        inMode(3, UP, "load 9 0", "+101e4 1");
        inMode(3, DOWN, "load 9 0", "+100e4 -1");
        inMode(3, UP, "load 8 0", "+100e4 0");
        inMode(3, UP, "load -9 0", "-100e4 1");
        inMode(3, DOWN, "load -9 0", "-101e4 -1");
        inMode(3, DOWN, "load -8 0", "-100e4 0");
        says("TO ROUND: (INFINITE is above or below all)");
        inMode(3, AWAY, "load 1 300", "+INFINITE 1");
        inMode(3, AWAY, "load -1 300", "-INFINITE -1");
        inMode(3, TO_ZERO, "load 1 300", "+111e200 -1");
        inMode(3, TO_ZERO, "load -1 300", "-111e200 1");
        says("TO ROUND: the ORDER of ZERO and of s, for what is below the exponents");
        inMode(3, TO_ZERO, "load 1 -300", "+ZERO -1");
        inMode(3, TO_ZERO, "load -1 -300", "-ZERO 1");
        inMode(3, AWAY, "load 1 -300", "+100e-200 1");
        inMode(3, AWAY, "load -1 -300", "-100e-200 -1");
    }
}
