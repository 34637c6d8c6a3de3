/** The boundaries of the promises 1 to 4, which fill registers, and 13 to 18, which read them. */
public final class RegisterBoundariesTest extends Checks {
    private static final String STEP_UP = oneAndZeros(91) + "1";
    private static final long MOST = Long.MAX_VALUE;
    private static final long LEAST = Long.MIN_VALUE;

    public static void main(String[] args) {
        eightRegisters();
        calls();
        newObject();
        setPrec();
        loadIntOfNothing();
        loadIntAtTheEnds();
        loadScaledOfNothing();
        loadScaledAtTheEnds();
        shifts();
        cmpInOrder();
        cmpOfZeros();
        cmpOfNan();
        kindOf();
        signOf();
        expOf();
        mantBit();
        mantBitOfOtherKinds();
        whole();
        wholeBesideOne();
        wholeAtTheGreatest();
        wholeAtTheLeast();
        wholeOfOtherKinds();
        end();
    }

    private static void eightRegisters() {
        says("Terms: there are 8 REGISTERS, 0 .. 7");
        RoundedNumbers x = new RoundedNumbers(4);
        for (int r = 0; r < 8; r++) {
            due("loadInt into " + r, x.loadInt(r, 8 + r, NEAREST), 0);
        }
        for (int r = 0; r < 8; r++) {
            due("whole of " + r, x.whole(r, NEAREST), 8L + r);
        }
        for (String operation : OPERATIONS) {
            due(operation + " from 7 to 0", operate(x, operation, UP, 0, 7, 7, 7) != 9, true);
            due(operation + " from 0 to 7", operate(x, operation, UP, 7, 0, 0, 0) != 9, true);
        }
    }

    private static void calls() {
        says("An object is used for at most 512 calls");
        RoundedNumbers x = new RoundedNumbers(93);
        x.loadInt(0, 0, NEAREST);
        x.loadInt(1, 1, NEAREST);
        for (int call = 3; call < 512; call++) {
            x.add(0, 0, 1, NEAREST);
        }
        due("the 512th call", x.whole(0, NEAREST), 509L);
    }

    private static void newObject() {
        says("Promise 1: All registers are NAN");
        for (int bits : new int[] {1, 50, 93}) {
            RoundedNumbers x = new RoundedNumbers(bits);
            for (int r = 0; r < 8; r++) {
                stored(x, r, "NAN");
                due("bit 0", x.mantBit(r, 0), -1);
                due("exponent", x.expOf(r), 0);
            }
        }
        says("Promise 1: with the precision bits, but at least 1 and at most 93");
        for (int bits = -3; bits <= 97; bits++) {
            newPrecision(bits, bits < 1 ? 1 : bits > 93 ? 93 : bits);
        }
        newPrecision(Integer.MIN_VALUE, 1);
        newPrecision(Integer.MIN_VALUE + 1, 1);
        newPrecision(Integer.MAX_VALUE, 93);
        newPrecision(256 + 5, 93);
        newPrecision(5 - 256, 1);
    }

    private static void newPrecision(int bits, int want) {
        for (int r = 0; r < 8; r++) {
            due("precision of " + r + " of a new one with " + bits, precisionOf(new RoundedNumbers(bits), r), want);
        }
    }

    private static void setPrec() {
        says("Promise 2: A register gets a precision and is NAN: true");
        for (int bits = 1; bits <= 93; bits++) {
            RoundedNumbers x = new RoundedNumbers(7);
            x.loadInt(3, 5, NEAREST);
            due("setPrec to " + bits, x.setPrec(3, bits), true);
            stored(x, 3, "NAN");
            due("precision", precisionOf(x, 3), bits);
        }
        for (String kind : ALL_KINDS) {
            for (int r = 0; r < 7; r++) {
                setPrecOf(r, kind);
            }
        }
    }

    private static void setPrecOf(int r, String kind) {
        RoundedNumbers x = new RoundedNumbers(3);
        for (int other = 0; other < 7; other++) {
            put(x, other, other == r ? kind : "+1101e4");
        }
        due("setPrec of " + kind, x.setPrec(r, 4), true);
        stored(x, r, "NAN");
        due("exponent", x.expOf(r), 0);
        due("bit 0", x.mantBit(r, 0), -1);
        for (int other = 0; other < 7; other++) {
            if (other != r) {
                stored(x, other, "+1101e4");
            }
        }
    }

    private static void loadIntOfNothing() {
        says("Promise 3: (0: ZERO with the sign 1)");
        for (int mode = NEAREST; mode <= AWAY; mode++) {
            for (String before : ALL_KINDS) {
                RoundedNumbers x = new RoundedNumbers(3);
                put(x, 0, before);
                due("loadInt of 0 in mode " + mode, x.loadInt(0, 0, mode), 0);
                stored(x, 0, "+ZERO");
            }
            loadsInt(3, 1, mode, "+100e1 0");
            loadsInt(3, -1, mode, "-100e1 0");
        }
    }

    private static void loadsInt(int prec, int v, int mode, String want) {
        RoundedNumbers x = new RoundedNumbers(prec);
        int order = x.loadInt(0, v, mode);
        due("loadInt of " + v + " to " + prec + " bits in mode " + mode, text(x, 0) + " " + order, want);
    }

    private static void loadsIntBetween(int prec, int v, String f, String g, boolean nearG) {
        for (int mode = NEAREST; mode <= AWAY; mode++) {
            boolean grows = mode == (v > 0 ? UP : DOWN) || mode == AWAY || mode == NEAREST && nearG;
            int order = (v > 0) == grows ? 1 : -1;
            loadsInt(prec, v, mode, (grows ? g : f) + " " + order);
        }
    }

    private static void loadIntAtTheEnds() {
        says("Promise 3: the greatest and the least int");
        int most = Integer.MAX_VALUE;
        int least = Integer.MIN_VALUE;
        for (int mode = NEAREST; mode <= AWAY; mode++) {
            loadsInt(31, most, mode, "+" + ones(31) + "e31 0");
            loadsInt(93, most, mode, "+" + ones(31) + zeros(62) + "e31 0");
            loadsInt(31, most - 1, mode, "+" + ones(30) + "0e31 0");
            loadsInt(30, most - 1, mode, "+" + ones(30) + "e31 0");
            for (int prec : new int[] {1, 2, 30, 31, 32, 33, 93}) {
                loadsInt(prec, least, mode, "-" + oneAndZeros(prec - 1) + "e32 0");
            }
            loadsInt(31, least + 1, mode, "-" + ones(31) + "e31 0");
        }
        loadsIntBetween(30, most, "+" + ones(30) + "e31", "+" + oneAndZeros(29) + "e32", true);
        loadsIntBetween(1, most, "+1e31", "+1e32", true);
        loadsIntBetween(29, most - 1, "+" + ones(29) + "e31", "+" + oneAndZeros(28) + "e32", true);
        loadsIntBetween(30, least + 1, "-" + ones(30) + "e31", "-" + oneAndZeros(29) + "e32", true);
        loadsIntBetween(1, least + 1, "-1e31", "-1e32", true);
    }

    private static void loadScaledOfNothing() {
        says("Promise 4: (v = 0: as for loadInt)");
        for (int shift : new int[] {-300, -299, -1, 0, 1, 299, 300}) {
            inEveryMode(3, "load 0 " + shift, "+ZERO 0");
        }
        exactly(3, "load 1 0", "+100e1");
    }

    private static void loadScaledAtTheEnds() {
        says("Promise 4: the greatest and the least long");
        exactly(63, "load " + MOST + " 0", "+" + ones(63) + "e63");
        exactly(93, "load " + MOST + " 137", "+" + ones(63) + zeros(30) + "e200");
        exactly(93, "load " + MOST + " -263", "+" + ones(63) + zeros(30) + "e-200");
        nearG(62, "load " + MOST + " 0", "+" + ones(62) + "e63", "+" + oneAndZeros(61) + "e64");
        exactly(62, "load " + (MOST - 1) + " 0", "+" + ones(62) + "e63");
        for (int prec : new int[] {1, 2, 62, 63, 64, 65, 93}) {
            inEveryMode(prec, "load " + LEAST + " 0", "-" + oneAndZeros(prec - 1) + "e64 0");
            inEveryMode(prec, "load " + LEAST + " 136", "-" + oneAndZeros(prec - 1) + "e200 0");
            inEveryMode(prec, "load " + LEAST + " -264", "-" + oneAndZeros(prec - 1) + "e-200 0");
        }
        exactly(63, "load " + (LEAST + 1) + " 0", "-" + ones(63) + "e63");
    }

    private static void shifts() {
        says("Promise 4: shift is -300 .. 300");
        nearG(3, "load 1 299", "+111e200", "+INFINITE");
        nearG(3, "load 1 300", "+111e200", "+INFINITE");
        nearF(3, "load 1 -299", "+ZERO", "+100e-200");
        nearF(3, "load 1 -300", "+ZERO", "+100e-200");
        nearF(3, "load " + MOST + " -300", "+ZERO", "+100e-200");
        nearG(3, "load " + MOST + " 300", "+111e200", "+INFINITE");
        due("the least long by 2^300", result(3, NEAREST, "load " + LEAST + " 300"), "-INFINITE -1");
        due("the least long by 2^-300", result(3, NEAREST, "load " + LEAST + " -300"), "-ZERO 1");
    }

    private static int compared(String a, String b) {
        RoundedNumbers x = new RoundedNumbers(1);
        put(x, 0, a);
        put(x, 6, b);
        int answer = x.cmp(0, 6);
        due("part x of cmp after it", text(x, 0), a);
        due("part y of cmp after it", text(x, 6), b);
        return answer;
    }

    private static void cmpInOrder() {
        says("Promise 13: -1, 0 or 1 as x is below, the same as or above y");
        String[] rising = {"+ZERO", "+1e-200", "+" + STEP_UP + "e-200", "+" + ones(93) + "e-200", "+1e-199",
            "+11e-2", "+" + ones(92) + "0e0", "+" + ones(93) + "e0", "+1e1", "+" + STEP_UP + "e1", "+11e1",
            "+1e200", "+111e200", "+" + ones(92) + "0e200", greatest(93), "+INFINITE"};
        for (int i = 0; i < rising.length; i++) {
            for (int j = 0; j < rising.length; j++) {
                int want = Integer.compare(i, j);
                due("cmp " + rising[i] + " " + rising[j], compared(rising[i], rising[j]), want);
                String a = turnedValue(rising[i]);
                String b = turnedValue(rising[j]);
                due("cmp " + a + " " + b, compared(a, b), -want);
                due("cmp " + a + " " + rising[j], compared(a, rising[j]), i + j == 0 ? 0 : -1);
                due("cmp " + rising[i] + " " + b, compared(rising[i], b), i + j == 0 ? 0 : 1);
            }
        }
        due("the same in 1 and 93 bits", compared("+1e1", "+" + oneAndZeros(92) + "e1"), 0);
        due("the same in 93 and 3 bits", compared("-101" + zeros(90) + "e9", "-101e9"), 0);
        RoundedNumbers x = new RoundedNumbers(3);
        x.loadInt(5, -5, NEAREST);
        due("with itself", x.cmp(5, 5), 0);
        x.loadScaled(5, -1, 300, AWAY);
        due("INFINITE with itself", x.cmp(5, 5), 0);
    }

    private static void cmpOfZeros() {
        says("Promise 13: (ZERO is the same as ZERO, whatever their signs)");
        due("cmp", compared("+ZERO", "+ZERO"), 0);
        due("cmp", compared("+ZERO", "-ZERO"), 0);
        due("cmp", compared("-ZERO", "+ZERO"), 0);
        due("cmp", compared("-ZERO", "-ZERO"), 0);
        due("one step above", compared("+1e-200", "-ZERO"), 1);
        due("one step below", compared("-1e-200", "-ZERO"), -1);
        due("one step above", compared("+ZERO", "-1e-200"), 1);
        due("one step below", compared("+ZERO", "+1e-200"), -1);
    }

    private static void cmpOfNan() {
        says("Promise 13: 2 when one of them is NAN");
        for (String kind : ALL_KINDS) {
            due("NAN with " + kind, compared("NAN", kind), 2);
            due(kind + " with NAN", compared(kind, "NAN"), 2);
        }
        due("NAN with itself", new RoundedNumbers(3).cmp(4, 4), 2);
        says("Promise 13: 2 when .. there is no such register");
        for (String kind : ALL_KINDS) {
            RoundedNumbers x = new RoundedNumbers(3);
            put(x, 0, kind);
            for (int r : NO_REGISTERS) {
                due(kind + " with " + r, x.cmp(0, r), 2);
                due(r + " with " + kind, x.cmp(r, 0), 2);
                due(r + " with itself", x.cmp(r, r), 2);
            }
        }
    }

    private static void kindOf() {
        says("Promise 14: The kind");
        int[] kinds = {0, 1, 1, 2, 2, 3, 3};
        for (int i = 0; i < kinds.length; i++) {
            for (int r = 0; r < 7; r++) {
                RoundedNumbers x = new RoundedNumbers(3);
                put(x, r, ALL_KINDS[i]);
                due("kindOf " + ALL_KINDS[i], x.kindOf(r), kinds[i]);
            }
        }
        says("Promise 14: -1 when there is no such register");
        for (int r : NO_REGISTERS) {
            due("kindOf " + r, new RoundedNumbers(3).kindOf(r), -1);
        }
    }

    private static void signOf() {
        says("Promise 15: The sign; 0 for NAN");
        int[] signs = {0, 1, -1, 1, -1, 1, -1};
        for (int i = 0; i < signs.length; i++) {
            for (int r = 0; r < 7; r++) {
                RoundedNumbers x = new RoundedNumbers(3);
                put(x, r, ALL_KINDS[i]);
                due("signOf " + ALL_KINDS[i], x.signOf(r), signs[i]);
                x.setPrec(r, 3);
                due("signOf after setPrec", x.signOf(r), 0);
            }
        }
        says("Promise 15: 0 .. when there is no such register");
        RoundedNumbers x = new RoundedNumbers(3);
        put(x, 0, "+101e3");
        put(x, 6, "-101e3");
        for (int r : NO_REGISTERS) {
            due("signOf " + r, x.signOf(r), 0);
        }
    }

    private static void expOf() {
        says("Promise 16: The exponent of a REGULAR one");
        RoundedNumbers x = new RoundedNumbers(1);
        for (int e : new int[] {-200, -199, -1, 0, 1, 199, 200}) {
            for (int sign = -1; sign <= 1; sign += 2) {
                x.loadScaled(2, sign, e - 1, NEAREST);
                due("expOf", x.expOf(2), e);
            }
        }
        says("Promise 16: 0 otherwise");
        for (String kind : PLAIN_KINDS) {
            x = new RoundedNumbers(4);
            // What stood there before must not show through.
            x.loadScaled(2, 1, 99, NEAREST);
            put(x, 2, kind);
            due("expOf " + kind, x.expOf(2), 0);
            x.loadScaled(3, 1, 99, NEAREST);
            x.copy(3, 2, NEAREST);
            due("expOf a copied " + kind, x.expOf(3), 0);
        }
        put(x, 0, "+101e3");
        for (int r : NO_REGISTERS) {
            due("expOf " + r, x.expOf(r), 0);
        }
    }

    private static void mantBit() {
        says("Promise 17: Bit i of m from the highest on (i = 0); -1 when .. i is not 0 .. p - 1");
        for (int prec = 1; prec <= 93; prec++) {
            RoundedNumbers x = new RoundedNumbers(prec);
            put(x, 4, "+" + ones(prec) + "e0");
            due("bit -1 of " + prec, x.mantBit(4, -1), -1);
            due("bit 0 of " + prec, x.mantBit(4, 0), 1);
            due("last bit of " + prec, x.mantBit(4, prec - 1), 1);
            due("one bit beyond " + prec, x.mantBit(4, prec), -1);
            due("two bits beyond " + prec, x.mantBit(4, prec + 1), -1);
        }
        String bits = "1" + "01101110010".repeat(8) + "0101";
        RoundedNumbers x = new RoundedNumbers(93);
        put(x, 4, "-" + bits + "e-200");
        for (int i = 0; i < 93; i++) {
            due("bit " + i, x.mantBit(4, i), bits.charAt(i) - '0');
        }
        for (int i : new int[] {-93, -2, -1, 93, 94, 256, 65536, Integer.MIN_VALUE, Integer.MAX_VALUE}) {
            due("bit " + i, x.mantBit(4, i), -1);
        }
    }

    private static void mantBitOfOtherKinds() {
        says("Promise 17: -1 when it is not REGULAR .. or there is no such register");
        for (String kind : PLAIN_KINDS) {
            RoundedNumbers x = new RoundedNumbers(4);
            put(x, 2, "+1111e3");
            put(x, 2, kind);
            for (int i = -1; i <= 4; i++) {
                due("bit " + i + " of " + kind, x.mantBit(2, i), -1);
            }
        }
        RoundedNumbers x = new RoundedNumbers(3);
        put(x, 0, "+101e3");
        for (int r : NO_REGISTERS) {
            due("bit 0 of " + r, x.mantBit(r, 0), -1);
        }
    }

    private static long wholeOf(String value, int mode) {
        RoundedNumbers x = new RoundedNumbers(1);
        put(x, 3, value);
        long answer = x.whole(3, mode);
        due("register of whole after it", text(x, 3), value);
        return answer;
    }

    /** A value above 0 between two whole numbers; and so with the other sign. */
    private static void wholes(String value, long f, long g, boolean nearG) {
        for (int mode = NEAREST; mode <= AWAY; mode++) {
            boolean grows = mode == UP || mode == AWAY || mode == NEAREST && nearG;
            long want = grows ? g : f;
            due("whole of " + value + " in mode " + mode, wholeOf(value, mode), want);
            due("whole of the turned " + value + " in mode " + MIRRORED[mode],
                    wholeOf(turnedValue(value), MIRRORED[mode]), -want);
        }
    }

    private static void whole() {
        says("Promise 18: The whole number next to a register's value as the mode says (NEAREST: of two the even one)");
        for (int n = 0; n <= 9; n++) {
            String tie = Integer.toBinaryString(2 * n + 1);
            int e = tie.length() - 1;
            wholes("+" + tie + "e" + e, n, n + 1, n % 2 == 1);
            wholes("+" + tie + zeros(92 - tie.length()) + "1e" + e, n, n + 1, true);
        }
        for (int n = 1; n <= 9; n++) {
            String bits = Integer.toBinaryString(n);
            int e = bits.length();
            wholes("+" + bits + "e" + e, n, n, false);
            wholes("+" + bits + zeros(92 - e) + "1e" + e, n, n + 1, false);
            wholes("+" + bits + "0" + ones(92 - e) + "e" + e, n, n + 1, false);
        }
        // The greatest and the least of 93 bits whose half still tells.
        wholes("+" + ones(62) + "1e62", (1L << 62) - 1, 1L << 62, true);
        wholes("+" + oneAndZeros(62) + "1e63", 1L << 62, (1L << 62) + 1, false);
        wholes("+" + oneAndZeros(61) + "11e63", (1L << 62) + 1, (1L << 62) + 2, true);
        wholes("+" + oneAndZeros(62) + "1" + zeros(28) + "1e63", 1L << 62, (1L << 62) + 1, true);
        wholes("+" + oneAndZeros(62) + "0" + ones(29) + "e63", 1L << 62, (1L << 62) + 1, false);
    }

    private static void wholeBesideOne() {
        says("Promise 18: beside 0, 1/2 and 1");
        wholes("+1e-200", 0, 1, false);
        wholes("+" + ones(93) + "e-200", 0, 1, false);
        wholes("+1e-1", 0, 1, false);
        wholes("+" + ones(93) + "e-1", 0, 1, false);
        wholes("+1e0", 0, 1, false);
        wholes("+" + STEP_UP + "e0", 0, 1, true);
        wholes("+" + ones(93) + "e0", 0, 1, true);
        wholes("+1e1", 1, 1, false);
        wholes("+" + STEP_UP + "e1", 1, 2, false);
    }

    private static void wholeAtTheGreatest() {
        says("Promise 18: the greatest .. long when it would lie beyond");
        wholes("+" + ones(62) + "0e63", MOST - 1, MOST - 1, false);
        wholes("+" + ones(62) + "01e63", MOST - 1, MOST, false);
        String[] greatest = {ones(63) + "e63", ones(63) + zeros(29) + "1e63", ones(63) + "0" + ones(29) + "e63",
            ones(64) + "e63", ones(64) + zeros(28) + "1e63", ones(93) + "e63", "1e64", STEP_UP + "e64",
            oneAndZeros(63) + "1e64", oneAndZeros(62) + "1e64", "11e64", "1e65", "1e96", "1e128", "1e200"};
        for (String value : greatest) {
            for (int mode = NEAREST; mode <= AWAY; mode++) {
                due("whole of +" + value + " in mode " + mode, wholeOf("+" + value, mode), MOST);
            }
        }
    }

    private static void wholeAtTheLeast() {
        says("Promise 18: the .. least long when it would lie beyond");
        leastOrAbove("-" + ones(63) + "e63", -MOST, -MOST, -MOST);
        leastOrAbove("-" + ones(63) + zeros(29) + "1e63", -MOST, -MOST, LEAST);
        leastOrAbove("-" + ones(63) + "0" + ones(29) + "e63", -MOST, -MOST, LEAST);
        leastOrAbove("-" + ones(64) + "e63", LEAST, -MOST, LEAST);
        leastOrAbove("-" + ones(64) + zeros(28) + "1e63", LEAST, -MOST, LEAST);
        leastOrAbove("-" + ones(93) + "e63", LEAST, -MOST, LEAST);
        String[] least = {"1e64", STEP_UP + "e64", oneAndZeros(63) + "01e64", oneAndZeros(63) + "1e64",
            oneAndZeros(62) + "1e64", "11e64", "1e65", "1e96", "1e128", "1e200"};
        for (String value : least) {
            leastOrAbove("-" + value, LEAST, LEAST, LEAST);
        }
    }

    private static void leastOrAbove(String value, long nearest, long above, long below) {
        due("whole of " + value + ", nearest", wholeOf(value, NEAREST), nearest);
        due("whole of " + value + ", to ZERO", wholeOf(value, TO_ZERO), above);
        due("whole of " + value + ", up", wholeOf(value, UP), above);
        due("whole of " + value + ", down", wholeOf(value, DOWN), below);
        due("whole of " + value + ", away", wholeOf(value, AWAY), below);
    }

    private static void wholeOfOtherKinds() {
        says("Promise 18: 0 for NAN and ZERO; the greatest or least long when it .. is INFINITE");
        long[] wants = {0, MOST, LEAST, 0, 0};
        for (int i = 0; i < wants.length; i++) {
            for (int mode = NEAREST; mode <= AWAY; mode++) {
                due("whole of " + PLAIN_KINDS[i] + " in mode " + mode, wholeOf(PLAIN_KINDS[i], mode), wants[i]);
            }
        }
        says("Promise 18: 0 when there is no such register or mode");
        for (String kind : ALL_KINDS) {
            for (int mode : NO_MODES) {
                due("whole of " + kind + " in mode " + mode, wholeOf(kind, mode), 0L);
            }
        }
        RoundedNumbers x = new RoundedNumbers(3);
        for (int r = 0; r < 8; r++) {
            x.loadInt(r, 7, NEAREST);
        }
        for (int r : NO_REGISTERS) {
            for (int mode = -1; mode <= 5; mode++) {
                due("whole of " + r + " in mode " + mode, x.whole(r, mode), 0L);
            }
        }
    }
}
