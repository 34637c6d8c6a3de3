/** The boundaries in the document's OPERATIONS: parts that are NAN, INFINITE or ZERO, d among them. */
public final class PartsBoundariesTest extends Checks {
    private static final String[] FINITE = {"+ZERO", "-ZERO", "+101e3", "-11e-2", "+1e200", "-1e-200"};
    private static final String[] REGULAR = {"+101e3", "-11e-2", "+1e200", "-1e200", "+1e-200", "-1e-200"};
    private static final String[] INFINITE = {"+INFINITE", "-INFINITE"};
    private static final String[] ZERO = {"+ZERO", "-ZERO"};

    public static void main(String[] args) {
        anyWithNan();
        sumOfInfiniteOnes();
        sumWithAnInfinitePart();
        sumOfZeros();
        sumWithAZeroPart();
        sumThatIsNothing();
        productOfInfiniteAndZero();
        productWithAnInfinitePart();
        productWithAZeroPart();
        signsOfProductsAndQuotients();
        quotientThatIsNoNumber();
        quotientThatIsInfinite();
        quotientThatIsZero();
        roots();
        productThenSum();
        copyAndNegate();
        storesInAPart();
        storesInAPartOfAllKinds();
        end();
    }

    private static String productSign(String x, String y) {
        return x.charAt(0) == y.charAt(0) ? "+" : "-";
    }

    private static void anyWithNan() {
        says("ANY with a NAN part: NAN");
        for (String operation : new String[] {"copy", "negate", "sqrt"}) {
            inEveryMode(3, operation + " NAN", "NAN 0");
        }
        for (String x : ALL_KINDS) {
            for (String operation : new String[] {"add", "sub", "mul", "div"}) {
                inEveryMode(3, operation + " NAN " + x, "NAN 0");
                inEveryMode(3, operation + " " + x + " NAN", "NAN 0");
            }
            for (String y : ALL_KINDS) {
                inEveryMode(3, "fma NAN " + x + " " + y, "NAN 0");
                inEveryMode(3, "fma " + x + " NAN " + y, "NAN 0");
                inEveryMode(3, "fma " + x + " " + y + " NAN", "NAN 0");
            }
        }
    }

    private static void sumOfInfiniteOnes() {
        says("SUM of INFINITE ones with different signs: NAN");
        for (String x : INFINITE) {
            String other = turnedValue(x);
            inEveryMode(3, "add " + x + " " + other, "NAN 0");
            inEveryMode(3, "sub " + x + " " + x, "NAN 0");
            inEveryMode(3, "fma " + x + " +11e2 " + other, "NAN 0");
            inEveryMode(3, "fma -1e-200 " + x + " " + x, "NAN 0");
            inEveryMode(3, "fma " + x + " " + x + " -INFINITE", "NAN 0");
            inEveryMode(3, "fma " + x + " " + other + " +INFINITE", "NAN 0");
            inEveryMode(3, "add " + x + " " + x, x + " 0");
            inEveryMode(3, "sub " + x + " " + other, x + " 0");
            inEveryMode(3, "fma " + x + " +11e2 " + x, x + " 0");
            inEveryMode(3, "fma -1e-200 " + x + " " + other, other + " 0");
        }
    }

    private static void sumWithAnInfinitePart() {
        says("SUM .. otherwise with an INFINITE part that");
        for (String x : INFINITE) {
            for (String y : FINITE) {
                inEveryMode(3, "add " + x + " " + y, x + " 0");
                inEveryMode(3, "add " + y + " " + x, x + " 0");
                inEveryMode(3, "sub " + x + " " + y, x + " 0");
                inEveryMode(3, "sub " + y + " " + x, turnedValue(x) + " 0");
                inEveryMode(3, "fma " + x + " +1e-200 " + y, x + " 0");
                inEveryMode(3, "fma " + y + " -1e200 " + x, x + " 0");
                inEveryMode(3, "fma " + y + " +ZERO " + x, x + " 0");
            }
        }
    }

    private static void sumOfZeros() {
        says("ZERO and ZERO: ZERO, with their sign if they have the same one");
        inEveryMode(3, "add +ZERO +ZERO", "+ZERO 0");
        inEveryMode(3, "add -ZERO -ZERO", "-ZERO 0");
        inEveryMode(3, "sub +ZERO -ZERO", "+ZERO 0");
        inEveryMode(3, "sub -ZERO +ZERO", "-ZERO 0");
        inEveryMode(3, "fma +ZERO +101e3 +ZERO", "+ZERO 0");
        inEveryMode(3, "fma -101e3 -ZERO +ZERO", "+ZERO 0");
        inEveryMode(3, "fma -ZERO -ZERO +ZERO", "+ZERO 0");
        inEveryMode(3, "fma -ZERO +101e3 -ZERO", "-ZERO 0");
        inEveryMode(3, "fma -101e3 +ZERO -ZERO", "-ZERO 0");
        inEveryMode(3, "fma +ZERO -ZERO -ZERO", "-ZERO 0");
        says("ZERO and ZERO: .. otherwise with 1, but for DOWN with -1");
        butForDown(3, "add +ZERO -ZERO", "+ZERO 0", "-ZERO 0");
        butForDown(3, "add -ZERO +ZERO", "+ZERO 0", "-ZERO 0");
        butForDown(3, "sub +ZERO +ZERO", "+ZERO 0", "-ZERO 0");
        butForDown(3, "sub -ZERO -ZERO", "+ZERO 0", "-ZERO 0");
        butForDown(3, "fma +ZERO +101e3 -ZERO", "+ZERO 0", "-ZERO 0");
        butForDown(3, "fma -ZERO +101e3 +ZERO", "+ZERO 0", "-ZERO 0");
        butForDown(3, "fma -ZERO -ZERO -ZERO", "+ZERO 0", "-ZERO 0");
        butForDown(3, "fma -101e3 +ZERO +ZERO", "+ZERO 0", "-ZERO 0");
    }

    private static void sumWithAZeroPart() {
        says("A part that is ZERO: the other one, rounded");
        for (String zero : ZERO) {
            for (String call : new String[] {"add " + zero + " +", "sub " + zero + " -", "fma +11e2 " + zero + " +"}) {
                exactly(3, call + "101e3", "+101e3");
                exactly(4, call + "101e3", "+1010e3");
                nearF(2, call + "101e3", "+10e3", "+11e3");
                nearF(2, call + "1001e3", "+10e3", "+11e3");
                nearG(2, call + "1011e3", "+10e3", "+11e3");
                nearG(2, call + "111e200", "+11e200", "+INFINITE");
                exactly(2, call + "1e-200", "+10e-200");
            }
            for (String call : new String[] {"add +101e3 " + zero, "sub +101e3 " + zero, "fma +101e2 +1e2 " + zero}) {
                exactly(3, call, "+101e3");
                nearF(2, call, "+10e3", "+11e3");
                nearG(1, call.replace("101", "111"), "+1e3", "+1e4");
            }
        }
    }

    private static void sumThatIsNothing() {
        says("A sum that is 0: ZERO with 1, for DOWN with -1");
        String[] sizes = {"101e3", "1e-200", ones(93) + "e200", ones(93) + "e-200", oneAndZeros(92) + "e1"};
        for (String size : sizes) {
            butForDown(3, "add +" + size + " -" + size, "+ZERO 0", "-ZERO 0");
            butForDown(3, "add -" + size + " +" + size, "+ZERO 0", "-ZERO 0");
            butForDown(3, "sub +" + size + " +" + size, "+ZERO 0", "-ZERO 0");
            butForDown(3, "sub -" + size + " -" + size, "+ZERO 0", "-ZERO 0");
            butForDown(3, "fma +" + size + " -1e1 +" + size, "+ZERO 0", "-ZERO 0");
            butForDown(3, "fma +1e1 +" + size + " -" + size, "+ZERO 0", "-ZERO 0");
        }
        butForDown(3, "add +101e3 -1010000e3", "+ZERO 0", "-ZERO 0");
        butForDown(3, "fma +11e2 +11e2 -1001e4", "+ZERO 0", "-ZERO 0");
        butForDown(3, "fma -11e2 +11e2 +1001e4", "+ZERO 0", "-ZERO 0");
        says("A sum that is one step from 0 is rounded");
        exactly(93, "sub +" + oneAndZeros(91) + "1e1 +1e1", "+" + oneAndZeros(92) + "e-91");
        exactly(93, "fma +11e2 +11e2 -" + "1000" + ones(89) + "e4", "+" + oneAndZeros(92) + "e-88");
        nearF(3, "sub +" + oneAndZeros(91) + "1e-200 +1e-200", "+ZERO", "+100e-200");
        nearF(3, "fma +" + oneAndZeros(91) + "1e-99 +1e-100 -1e-200", "+ZERO", "+100e-200");
    }

    private static void productOfInfiniteAndZero() {
        says("PRODUCT of INFINITE and ZERO: NAN");
        for (String x : INFINITE) {
            for (String y : ZERO) {
                inEveryMode(3, "mul " + x + " " + y, "NAN 0");
                inEveryMode(3, "mul " + y + " " + x, "NAN 0");
                for (String z : ALL_KINDS) {
                    inEveryMode(3, "fma " + x + " " + y + " " + z, "NAN 0");
                    inEveryMode(3, "fma " + y + " " + x + " " + z, "NAN 0");
                }
            }
        }
    }

    private static void productWithAnInfinitePart() {
        says("PRODUCT .. with an INFINITE part: INFINITE");
        for (String x : INFINITE) {
            for (String y : REGULAR) {
                String want = productSign(x, y) + "INFINITE 0";
                inEveryMode(3, "mul " + x + " " + y, want);
                inEveryMode(3, "mul " + y + " " + x, want);
            }
            for (String y : INFINITE) {
                inEveryMode(3, "mul " + x + " " + y, productSign(x, y) + "INFINITE 0");
            }
        }
    }

    private static void productWithAZeroPart() {
        says("PRODUCT .. with a ZERO part: ZERO");
        for (String x : ZERO) {
            for (String y : REGULAR) {
                String want = productSign(x, y) + "ZERO 0";
                inEveryMode(3, "mul " + x + " " + y, want);
                inEveryMode(3, "mul " + y + " " + x, want);
            }
            for (String y : ZERO) {
                inEveryMode(3, "mul " + x + " " + y, productSign(x, y) + "ZERO 0");
            }
        }
    }

    private static void signsOfProductsAndQuotients() {
        says("the sign of a product or quotient is that of its parts, one times the other");
        for (String call : new String[] {"mul +11e2 +1e2", "mul -11e2 -1e2", "div +11e3 +1e1", "div -11e3 -1e1"}) {
            exactly(3, call, "+110e3");
        }
        for (String call : new String[] {"mul +11e2 -1e2", "mul -11e2 +1e2", "div +11e3 -1e1", "div -11e3 +1e1"}) {
            exactly(3, call, "-110e3");
        }
        for (String call : new String[] {"mul -1e200 -1e2", "div -1e200 -1e0", "mul +1e2 +1e200", "div +1e200 +1e0"}) {
            nearG(3, call, "+111e200", "+INFINITE");
        }
        for (String call : new String[] {"mul -1e-200 -1e0", "div -1e-200 -1e2", "mul +1e0 +1e-200", "div +1e-200 +1e2"}) {
            nearF(3, call, "+ZERO", "+100e-200");
        }
        nearF(3, "fma -1e-200 -1e-200 +1e-200", "+100e-200", "+101e-200");
        exactly(3, "fma -11e2 -11e2 -1e4", "+100e1");
    }

    private static void quotientThatIsNoNumber() {
        says("QUOTIENT of ZERO by ZERO, or of INFINITE by INFINITE: NAN");
        for (String x : ZERO) {
            for (String y : ZERO) {
                inEveryMode(3, "div " + x + " " + y, "NAN 0");
            }
        }
        for (String x : INFINITE) {
            for (String y : INFINITE) {
                inEveryMode(3, "div " + x + " " + y, "NAN 0");
            }
        }
    }

    private static void quotientThatIsInfinite() {
        says("QUOTIENT .. of INFINITE, or by ZERO: INFINITE");
        for (String x : INFINITE) {
            for (String y : FINITE) {
                inEveryMode(3, "div " + x + " " + y, productSign(x, y) + "INFINITE 0");
            }
        }
        for (String x : REGULAR) {
            for (String y : ZERO) {
                inEveryMode(3, "div " + x + " " + y, productSign(x, y) + "INFINITE 0");
            }
        }
    }

    private static void quotientThatIsZero() {
        says("QUOTIENT .. of ZERO, or by INFINITE: ZERO");
        for (String x : ZERO) {
            for (String y : REGULAR) {
                inEveryMode(3, "div " + x + " " + y, productSign(x, y) + "ZERO 0");
            }
        }
        for (String x : FINITE) {
            for (String y : INFINITE) {
                inEveryMode(3, "div " + x + " " + y, productSign(x, y) + "ZERO 0");
            }
        }
    }

    private static void roots() {
        says("ROOT of ZERO: that");
        inEveryMode(3, "sqrt +ZERO", "+ZERO 0");
        inEveryMode(3, "sqrt -ZERO", "-ZERO 0");
        says("ROOT .. of one with the sign -1: NAN");
        for (String x : new String[] {"-1e-200", "-11e-2", "-1e1", "-100e3", "-" + ones(93) + "e200", "-INFINITE"}) {
            inEveryMode(3, "sqrt " + x, "NAN 0");
        }
        says("ROOT .. of INFINITE: that");
        inEveryMode(3, "sqrt +INFINITE", "+INFINITE 0");
    }

    private static void productThenSum() {
        says("Promise 12: first as for a product (NAN, INFINITE and ZERO), then as for a sum");
        inEveryMode(3, "fma +INFINITE +ZERO +INFINITE", "NAN 0");
        inEveryMode(3, "fma -ZERO +INFINITE -ZERO", "NAN 0");
        inEveryMode(3, "fma -INFINITE +1e-200 +1e200", "-INFINITE 0");
        inEveryMode(3, "fma -INFINITE -1e-200 -1e200", "+INFINITE 0");
        inEveryMode(3, "fma +ZERO -1e200 +101e3", "+101e3 0");
        // Beyond all exponents, but still no INFINITE and no ZERO one.
        inEveryMode(3, "fma +1e200 +1e200 -INFINITE", "-INFINITE 0");
        inEveryMode(3, "fma -1e200 +1e200 +INFINITE", "+INFINITE 0");
        nearF(3, "fma +1e-200 +1e-200 +ZERO", "+ZERO", "+100e-200");
        nearF(3, "fma +1e-200 +1e-200 -ZERO", "+ZERO", "+100e-200");
    }

    private static void copyAndNegate() {
        says("What is not rounded has the order 0; promise 6: (NAN stays)");
        for (int prec : new int[] {1, 3, 93}) {
            for (String x : PLAIN_KINDS) {
                inEveryMode(prec, "copy " + x, x + " 0");
                inEveryMode(prec, "negate " + x, turnedValue(x) + " 0");
            }
        }
    }

    /** All ways to let d, x, y and z share registers must store what they store apart. */
    private static void storesInAPart() {
        says("d may be one of the others");
        int[][] shared = {{1, 1, 2, 3}, {2, 1, 2, 3}, {3, 1, 2, 3}, {1, 1, 1, 3}, {1, 1, 2, 1}, {2, 1, 2, 2},
            {3, 1, 1, 3}, {3, 3, 3, 1}, {1, 1, 1, 1}, {3, 1, 1, 2}};
        String[] values = {"", "+10110111e3", "+1101e2", "+1011011e1"};
        for (String operation : OPERATIONS) {
            for (int[] r : shared) {
                for (int mode = NEAREST; mode <= AWAY; mode++) {
                    sharing(operation, mode, r, values);
                }
            }
        }
        exactly(3, "mul +11e2 +1e2", "+110e3");
        RoundedNumbers x = new RoundedNumbers(3);
        x.loadInt(0, 7, NEAREST);
        due("a square into itself", x.mul(0, 0, 0, NEAREST), -1);
        stored(x, 0, "+110e6");
        due("a quotient by itself into itself", x.div(0, 0, 0, UP), 0);
        stored(x, 0, "+100e1");
        due("a difference with itself into itself", x.sub(0, 0, 0, DOWN), 0);
        stored(x, 0, "-ZERO");
        due("a sum with itself into itself", x.add(0, 0, 0, UP), 0);
        stored(x, 0, "-ZERO");
        due("itself turned", x.negate(0, 0, DOWN), 0);
        stored(x, 0, "+ZERO");
    }

    private static void storesInAPartOfAllKinds() {
        says("d may be one of the others, of any kind");
        int[][] shared = {{1, 1, 2, 3}, {2, 1, 2, 3}, {3, 1, 2, 3}, {1, 1, 1, 1}};
        for (String operation : OPERATIONS) {
            for (String a : ALL_KINDS) {
                for (String b : ALL_KINDS) {
                    for (int[] r : shared) {
                        sharing(operation, NEAREST, r, new String[] {"", a, b, a});
                        sharing(operation, DOWN, r, new String[] {"", a, b, b});
                    }
                }
            }
        }
    }

    private static void sharing(String operation, int mode, int[] r, String[] values) {
        StringBuilder call = new StringBuilder(operation);
        for (int i = 1; i <= partsOf(operation); i++) {
            call.append(' ').append(values[r[i]]);
        }
        RoundedNumbers x = new RoundedNumbers(5);
        for (int i = 1; i < values.length; i++) {
            put(x, i, values[i]);
        }
        int prec = values[r[0]].contains("e") ? values[r[0]].indexOf('e') - 1 : 4;
        int order = operate(x, operation, mode, r);
        due(call + " into register " + r[0] + " in mode " + mode, text(x, r[0]) + " " + order,
                result(prec, mode, call.toString()));
        for (int i = 1; i < values.length; i++) {
            if (i != r[0]) {
                due("register " + i + " after " + call, text(x, i), values[i]);
            }
        }
    }
}
