/** Each promise of the document by hand: ordinary inputs, the edges that it names, wrong inputs. */
public final class PromisesTest extends Checks {
    public static void main(String[] args) {
        newObject();
        setPrec();
        loadInt();
        loadScaled();
        roundingBeyondTheExponents();
        copy();
        negate();
        add();
        addOfPlainOnes();
        sub();
        mul();
        div();
        sqrt();
        fma();
        cmp();
        kindOf();
        signOf();
        expOf();
        mantBit();
        whole();
        wholeAtTheEnds();
        end();
    }

    /** Registers: 0 NAN, 1 +INFINITE, 2 -INFINITE, 3 +ZERO, 4 -ZERO, 5 +3, 6 -3, 7 free. */
    private static RoundedNumbers withAllKinds(int bits) {
        RoundedNumbers x = new RoundedNumbers(bits);
        x.loadInt(3, 0, NEAREST);
        x.negate(4, 3, NEAREST);
        x.loadInt(5, 3, NEAREST);
        x.loadInt(6, -3, NEAREST);
        x.div(1, 5, 3, NEAREST);
        x.div(2, 6, 3, NEAREST);
        return x;
    }

    private static void newObject() {
        says("promise 1");
        RoundedNumbers x = new RoundedNumbers(5);
        for (int r = 0; r < 8; r++) {
            stored(x, r, "NAN");
            due("precision", precisionOf(x, r), 5);
        }
        int[][] asked = {{1, 1}, {0, 1}, {-7, 1}, {Integer.MIN_VALUE, 1},
            {93, 93}, {94, 93}, {92, 92}, {Integer.MAX_VALUE, 93}};
        for (int[] bits : asked) {
            due("precision of new " + bits[0], precisionOf(new RoundedNumbers(bits[0]), 7), bits[1]);
        }
    }

    private static void setPrec() {
        says("promise 2");
        RoundedNumbers x = new RoundedNumbers(4);
        x.loadInt(2, 13, NEAREST);
        x.loadInt(3, 13, NEAREST);
        due("setPrec", x.setPrec(2, 3), true);
        stored(x, 2, "NAN");
        stored(x, 3, "+1101e4");
        due("precision", precisionOf(x, 2), 3);
        due("setPrec to the same", x.setPrec(3, 4), true);
        stored(x, 3, "NAN");
        due("setPrec least", x.setPrec(0, 1) && precisionOf(x, 0) == 1, true);
        due("setPrec greatest", x.setPrec(7, 93) && precisionOf(x, 7) == 93, true);
        x.loadInt(3, 13, NEAREST);
        for (int bits : new int[] {0, 94, -1, Integer.MIN_VALUE, Integer.MAX_VALUE}) {
            due("setPrec to " + bits, x.setPrec(3, bits), false);
            stored(x, 3, "+1101e4");
        }
        for (int r : NO_REGISTERS) {
            due("setPrec of " + r, x.setPrec(r, 5), false);
        }
    }

    /** Loads v * 2^shift and, mirrored, -v * 2^shift, in the modes 0 to 4. */
    private static void rounds(int bits, long v, int shift, String sizes, int... orders) {
        String[] want = sizes.split(" ");
        for (int mode = 0; mode < 5; mode++) {
            RoundedNumbers x = new RoundedNumbers(bits);
            String what = v + " * 2^" + shift + " in mode " + mode;
            due("order of " + what, x.loadScaled(0, v, shift, mode), orders[mode]);
            stored(x, 0, "+" + want[mode]);
            due("order of -" + what, x.loadScaled(0, -v, shift, mode), -orders[MIRRORED[mode]]);
            stored(x, 0, "-" + want[MIRRORED[mode]]);
        }
    }

    private static void loadInt() {
        says("promise 3");
        RoundedNumbers x = new RoundedNumbers(3);
        for (int mode = 0; mode < 5; mode++) {
            due("loadInt of 0", x.loadInt(0, 0, mode), 0);
            stored(x, 0, "+ZERO");
        }
        due("exact", x.loadInt(0, 7, AWAY), 0);
        stored(x, 0, "+111e3");
        due("tie to even below", x.loadInt(0, 9, NEAREST), -1);
        stored(x, 0, "+100e4");
        due("tie to even above", x.loadInt(0, 11, NEAREST), 1);
        stored(x, 0, "+110e4");
        due("tie into the next exponent", x.loadInt(0, 15, NEAREST), 1);
        stored(x, 0, "+100e5");
        due("above the tie", x.loadInt(0, 19, NEAREST), 1);
        stored(x, 0, "+101e5");
        due("below the tie", x.loadInt(0, 17, NEAREST), -1);
        stored(x, 0, "+100e5");
        due("least int", x.loadInt(0, Integer.MIN_VALUE, NEAREST), 0);
        stored(x, 0, "-100e32");
        due("greatest int", x.loadInt(0, Integer.MAX_VALUE, TO_ZERO), -1);
        stored(x, 0, "+111e31");
        for (int r : NO_REGISTERS) {
            due("register " + r, x.loadInt(r, 1, NEAREST), 9);
        }
        for (int mode : NO_MODES) {
            due("mode " + mode, x.loadInt(0, 1, mode), 9);
            due("mode " + mode + " of 0", x.loadInt(0, 0, mode), 9);
            stored(x, 0, "+111e31");
        }
    }

    private static void loadScaled() {
        says("promise 4");
        rounds(3, 9, 0, "100e4 100e4 101e4 100e4 101e4", -1, -1, 1, -1, 1);
        rounds(3, 11, -9, "110e-5 101e-5 110e-5 101e-5 110e-5", 1, -1, 1, -1, 1);
        rounds(3, 31, 0, "100e6 111e5 100e6 111e5 100e6", 1, -1, 1, -1, 1);
        rounds(3, 5, 40, "101e43 101e43 101e43 101e43 101e43", 0, 0, 0, 0, 0);
        rounds(1, 3, 0, "1e2 1e2 1e3 1e2 1e3", -1, -1, 1, -1, 1);
        rounds(1, 3, 1, "1e4 1e3 1e4 1e3 1e4", 1, -1, 1, -1, 1);
        rounds(1, 3, -2, "1e0 1e0 1e1 1e0 1e1", -1, -1, 1, -1, 1);
        rounds(1, 3, -3, "1e0 1e-1 1e0 1e-1 1e0", 1, -1, 1, -1, 1);
        rounds(1, 5, 0, "1e3 1e3 1e4 1e3 1e4", -1, -1, 1, -1, 1);
        rounds(1, 7, 0, "1e4 1e3 1e4 1e3 1e4", 1, -1, 1, -1, 1);
        String all = ones(63) + "0".repeat(30) + "e63";
        rounds(93, Long.MAX_VALUE, 0, String.join(" ", all, all, all, all, all), 0, 0, 0, 0, 0);
        RoundedNumbers x = new RoundedNumbers(4);
        due("least long", x.loadScaled(1, Long.MIN_VALUE, -3, NEAREST), 0);
        stored(x, 1, "-1000e61");
        due("0", x.loadScaled(1, 0, 300, DOWN), 0);
        stored(x, 1, "+ZERO");
        due("greatest shift", x.loadScaled(1, 1, 300, TO_ZERO), -1);
        stored(x, 1, "+1111e200");
        due("least shift", x.loadScaled(1, 1, -300, AWAY), 1);
        stored(x, 1, "+1000e-200");
        due("least shift that fits", x.loadScaled(1, Long.MIN_VALUE, -264, NEAREST), 0);
        stored(x, 1, "-1000e-200");
        for (int shift : new int[] {301, -301, Integer.MIN_VALUE, Integer.MAX_VALUE}) {
            due("shift " + shift, x.loadScaled(1, 1, shift, NEAREST), 9);
            due("shift " + shift + " of 0", x.loadScaled(1, 0, shift, NEAREST), 9);
            stored(x, 1, "-1000e-200");
        }
        for (int r : NO_REGISTERS) {
            due("register " + r, x.loadScaled(r, 1, 0, NEAREST), 9);
        }
        for (int mode : NO_MODES) {
            due("mode " + mode, x.loadScaled(1, 1, 0, mode), 9);
            stored(x, 1, "-1000e-200");
        }
    }

    private static void roundingBeyondTheExponents() {
        says("terms, promise 4");
        rounds(3, 7, 197, "111e200 111e200 111e200 111e200 111e200", 0, 0, 0, 0, 0);
        rounds(3, 1, 200, "INFINITE 111e200 INFINITE 111e200 INFINITE", 1, -1, 1, -1, 1);
        rounds(3, 29, 195, "111e200 111e200 INFINITE 111e200 INFINITE", -1, -1, 1, -1, 1);
        rounds(3, 15, 196, "INFINITE 111e200 INFINITE 111e200 INFINITE", 1, -1, 1, -1, 1);
        rounds(1, 3, 198, "1e200 1e200 INFINITE 1e200 INFINITE", -1, -1, 1, -1, 1);
        rounds(1, 7, 197, "INFINITE 1e200 INFINITE 1e200 INFINITE", 1, -1, 1, -1, 1);
        rounds(3, 1, -201, "100e-200 100e-200 100e-200 100e-200 100e-200", 0, 0, 0, 0, 0);
        rounds(3, 1, -202, "ZERO ZERO 100e-200 ZERO 100e-200", -1, -1, 1, -1, 1);
        rounds(3, 1, -300, "ZERO ZERO 100e-200 ZERO 100e-200", -1, -1, 1, -1, 1);
        rounds(3, 7, -205, "ZERO ZERO 100e-200 ZERO 100e-200", -1, -1, 1, -1, 1);
        rounds(3, 5, -204, "100e-200 ZERO 100e-200 ZERO 100e-200", 1, -1, 1, -1, 1);
        // Above the half, though its rounded bits are those of the half itself.
        rounds(3, 65, -208, "100e-200 ZERO 100e-200 ZERO 100e-200", 1, -1, 1, -1, 1);
        // Below the half, though its rounded bits are those of the half itself.
        rounds(3, 63, -208, "ZERO ZERO 100e-200 ZERO 100e-200", -1, -1, 1, -1, 1);
        rounds(3, 31, -206, "100e-200 ZERO 100e-200 ZERO 100e-200", 1, -1, 1, -1, 1);
        rounds(1, 3, -203, "1e-200 ZERO 1e-200 ZERO 1e-200", 1, -1, 1, -1, 1);
        rounds(1, 5, -204, "1e-200 ZERO 1e-200 ZERO 1e-200", 1, -1, 1, -1, 1);
        rounds(1, 1, -202, "ZERO ZERO 1e-200 ZERO 1e-200", -1, -1, 1, -1, 1);
        rounds(1, 3, -204, "ZERO ZERO 1e-200 ZERO 1e-200", -1, -1, 1, -1, 1);
    }

    private static void copy() {
        says("promise 5");
        RoundedNumbers x = withAllKinds(8);
        String[] plain = {"NAN", "+INFINITE", "-INFINITE", "+ZERO", "-ZERO"};
        for (int r = 0; r < plain.length; r++) {
            for (int mode = 0; mode < 5; mode++) {
                due("order", x.copy(7, r, mode), 0);
                stored(x, 7, plain[r]);
            }
        }
        x.setPrec(1, 2);
        x.loadInt(6, -13, NEAREST);
        due("nearest", x.copy(1, 6, NEAREST), 1);
        stored(x, 1, "-11e4");
        due("down", x.copy(1, 6, DOWN), -1);
        stored(x, 1, "-10e5");
        stored(x, 6, "-11010000e4");
        due("to itself", x.copy(6, 6, AWAY), 0);
        stored(x, 6, "-11010000e4");
        for (int r : NO_REGISTERS) {
            due("to " + r, x.copy(r, 6, NEAREST), 9);
            due("from " + r, x.copy(6, r, NEAREST), 9);
        }
        for (int mode : NO_MODES) {
            due("mode " + mode, x.copy(6, 5, mode), 9);
        }
        stored(x, 6, "-11010000e4");
    }

    private static void negate() {
        says("promise 6");
        RoundedNumbers x = withAllKinds(8);
        String[] turned = {"NAN", "-INFINITE", "+INFINITE", "-ZERO", "+ZERO", "-11000000e2", "+11000000e2"};
        for (int r = 0; r < turned.length; r++) {
            for (int mode = 0; mode < 5; mode++) {
                due("order", x.negate(7, r, mode), 0);
                stored(x, 7, turned[r]);
            }
        }
        x.setPrec(1, 2);
        x.loadInt(6, 13, NEAREST);
        due("up", x.negate(1, 6, UP), 1);
        stored(x, 1, "-11e4");
        due("down", x.negate(1, 6, DOWN), -1);
        stored(x, 1, "-10e5");
        due("itself", x.negate(6, 6, NEAREST), 0);
        stored(x, 6, "-11010000e4");
        for (int r : NO_REGISTERS) {
            due("to " + r, x.negate(r, 6, NEAREST), 9);
            due("from " + r, x.negate(6, r, NEAREST), 9);
        }
        for (int mode : NO_MODES) {
            due("mode " + mode, x.negate(6, 5, mode), 9);
        }
        stored(x, 6, "-11010000e4");
    }

    private static void add() {
        says("promise 7");
        RoundedNumbers x = new RoundedNumbers(4);
        x.loadInt(0, 12, NEAREST);
        x.loadInt(1, 5, NEAREST);
        due("tie", x.add(2, 0, 1, NEAREST), -1);
        stored(x, 2, "+1000e5");
        due("up", x.add(2, 0, 1, UP), 1);
        stored(x, 2, "+1001e5");
        x.loadInt(3, -12, NEAREST);
        due("of different signs", x.add(2, 3, 1, DOWN), 0);
        stored(x, 2, "-1110e3");
        due("to 0", x.add(2, 0, 3, UP), 0);
        stored(x, 2, "+ZERO");
        due("to 0, down", x.add(2, 3, 0, DOWN), 0);
        stored(x, 2, "-ZERO");
        x.loadScaled(4, 1, -201, NEAREST);
        x.loadScaled(5, -15, 196, NEAREST);
        due("of the least and the greatest", x.add(2, 4, 5, UP), 1);
        stored(x, 2, "-1110e200");
        due("of the least and the greatest", x.add(2, 4, 5, NEAREST), -1);
        stored(x, 2, "-1111e200");
        due("of the greatest", x.add(2, 5, 5, UP), 1);
        stored(x, 2, "-1111e200");
        due("of the greatest", x.add(2, 5, 5, NEAREST), -1);
        stored(x, 2, "-INFINITE");
        x.setPrec(6, 3);
        x.loadInt(7, 0, NEAREST);
        due("with ZERO, rounded", x.add(6, 7, 5, DOWN), -1);
        stored(x, 6, "-INFINITE");
        due("with ZERO, rounded", x.add(6, 5, 7, TO_ZERO), 1);
        stored(x, 6, "-111e200");
        due("into a part", x.add(1, 1, 1, NEAREST), 0);
        stored(x, 1, "+1010e4");
        for (int r : NO_REGISTERS) {
            due("to " + r, x.add(r, 0, 1, NEAREST), 9);
            due("of " + r, x.add(1, r, 1, NEAREST), 9);
            due("of " + r, x.add(1, 1, r, NEAREST), 9);
        }
        for (int mode : NO_MODES) {
            due("mode " + mode, x.add(1, 0, 1, mode), 9);
        }
        stored(x, 1, "+1010e4");
    }

    private static void addOfPlainOnes() {
        says("promise 7");
        RoundedNumbers x = withAllKinds(3);
        String[] rows = {
            "NAN NAN NAN NAN NAN NAN NAN",
            "NAN +INFINITE NAN +INFINITE +INFINITE +INFINITE +INFINITE",
            "NAN NAN -INFINITE -INFINITE -INFINITE -INFINITE -INFINITE",
            "NAN +INFINITE -INFINITE +ZERO +ZERO +110e2 -110e2",
            "NAN +INFINITE -INFINITE +ZERO -ZERO +110e2 -110e2",
            "NAN +INFINITE -INFINITE +110e2 +110e2 +110e3 +ZERO",
            "NAN +INFINITE -INFINITE -110e2 -110e2 +ZERO -110e3"};
        for (int a = 0; a < 7; a++) {
            String[] row = rows[a].split(" ");
            for (int b = 0; b < 7; b++) {
                due("order", x.add(7, a, b, NEAREST), 0);
                stored(x, 7, row[b]);
            }
        }
        due("ZERO down", x.add(7, 3, 4, DOWN), 0);
        stored(x, 7, "-ZERO");
        due("same ZERO down", x.add(7, 3, 3, DOWN), 0);
        stored(x, 7, "+ZERO");
    }

    private static void sub() {
        says("promise 8");
        RoundedNumbers x = withAllKinds(3);
        String[] rows = {
            "NAN NAN NAN NAN NAN NAN NAN",
            "NAN NAN +INFINITE +INFINITE +INFINITE +INFINITE +INFINITE",
            "NAN -INFINITE NAN -INFINITE -INFINITE -INFINITE -INFINITE",
            "NAN -INFINITE +INFINITE +ZERO +ZERO -110e2 +110e2",
            "NAN -INFINITE +INFINITE -ZERO +ZERO -110e2 +110e2",
            "NAN -INFINITE +INFINITE +110e2 +110e2 +ZERO +110e3",
            "NAN -INFINITE +INFINITE -110e2 -110e2 -110e3 +ZERO"};
        for (int a = 0; a < 7; a++) {
            String[] row = rows[a].split(" ");
            for (int b = 0; b < 7; b++) {
                due("order", x.sub(7, a, b, NEAREST), 0);
                stored(x, 7, row[b]);
            }
        }
        x = new RoundedNumbers(4);
        x.loadInt(0, 12, NEAREST);
        x.loadInt(1, -5, NEAREST);
        due("tie", x.sub(2, 0, 1, NEAREST), -1);
        stored(x, 2, "+1000e5");
        due("turned", x.sub(2, 1, 0, DOWN), -1);
        stored(x, 2, "-1001e5");
        due("to 0", x.sub(2, 0, 0, DOWN), 0);
        stored(x, 2, "-ZERO");
        x.loadScaled(3, 1, -201, NEAREST);
        x.loadInt(4, 16, NEAREST);
        due("just below a power of 2", x.sub(2, 4, 3, TO_ZERO), -1);
        stored(x, 2, "+1111e4");
        due("just below a power of 2", x.sub(2, 4, 3, NEAREST), 1);
        stored(x, 2, "+1000e5");
        x.setPrec(5, 93);
        due("just below a power of 2", x.sub(5, 4, 3, DOWN), -1);
        stored(x, 5, "+" + ones(93) + "e4");
        due("into a part", x.sub(0, 0, 1, UP), 1);
        stored(x, 0, "+1001e5");
        for (int r : NO_REGISTERS) {
            due("to " + r, x.sub(r, 0, 1, NEAREST), 9);
            due("of " + r, x.sub(0, r, 1, NEAREST), 9);
            due("of " + r, x.sub(0, 1, r, NEAREST), 9);
        }
        for (int mode : NO_MODES) {
            due("mode " + mode, x.sub(0, 0, 1, mode), 9);
        }
        stored(x, 0, "+1001e5");
    }

    private static void mul() {
        says("promise 9");
        RoundedNumbers x = withAllKinds(3);
        String[] rows = {
            "NAN NAN NAN NAN NAN NAN NAN",
            "NAN +INFINITE -INFINITE NAN NAN +INFINITE -INFINITE",
            "NAN -INFINITE +INFINITE NAN NAN -INFINITE +INFINITE",
            "NAN NAN NAN +ZERO -ZERO +ZERO -ZERO",
            "NAN NAN NAN -ZERO +ZERO -ZERO +ZERO",
            "NAN +INFINITE -INFINITE +ZERO -ZERO +100e4 -100e4",
            "NAN -INFINITE +INFINITE -ZERO +ZERO -100e4 +100e4"};
        for (int a = 0; a < 7; a++) {
            String[] row = rows[a].split(" ");
            for (int b = 0; b < 7; b++) {
                int order = a < 5 || b < 5 ? 0 : a == b ? -1 : 1;
                due("order", x.mul(7, a, b, NEAREST), order);
                stored(x, 7, row[b]);
            }
        }
        x = new RoundedNumbers(93);
        x.loadInt(0, 1, NEAREST);
        x.loadScaled(1, 1, -92, NEAREST);
        x.add(2, 0, 1, NEAREST);
        due("all bits, down", x.mul(3, 2, 2, DOWN), -1);
        stored(x, 3, "+1" + "0".repeat(90) + "10e1");
        due("all bits, up", x.mul(3, 2, 2, UP), 1);
        stored(x, 3, "+1" + "0".repeat(90) + "11e1");
        x.loadScaled(4, -1, -150, NEAREST);
        x.loadScaled(5, 1, 120, NEAREST);
        due("too small", x.mul(3, 4, 4, NEAREST), -1);
        stored(x, 3, "+ZERO");
        due("too small, away", x.mul(3, 4, 4, AWAY), 1);
        stored(x, 3, "+" + oneAndZeros(92) + "e-200");
        due("too great", x.mul(3, 5, 5, NEAREST), 1);
        stored(x, 3, "+INFINITE");
        due("too great, down", x.mul(3, 5, 5, DOWN), -1);
        stored(x, 3, "+" + ones(93) + "e200");
        due("into a part", x.mul(4, 4, 5, NEAREST), 0);
        stored(x, 4, "-" + oneAndZeros(92) + "e-29");
        x = new RoundedNumbers(4);
        x.loadInt(0, 1, NEAREST);
        x.loadInt(1, 3, NEAREST);
        for (int r : NO_REGISTERS) {
            due("to " + r, x.mul(r, 0, 1, NEAREST), 9);
            due("of " + r, x.mul(0, r, 1, NEAREST), 9);
            due("of " + r, x.mul(0, 1, r, NEAREST), 9);
        }
        for (int mode : NO_MODES) {
            due("mode " + mode, x.mul(0, 1, 1, mode), 9);
        }
        stored(x, 0, "+1000e1");
    }

    private static void div() {
        says("promise 10");
        RoundedNumbers x = withAllKinds(3);
        String[] rows = {
            "NAN NAN NAN NAN NAN NAN NAN",
            "NAN NAN NAN +INFINITE -INFINITE +INFINITE -INFINITE",
            "NAN NAN NAN -INFINITE +INFINITE -INFINITE +INFINITE",
            "NAN +ZERO -ZERO NAN NAN +ZERO -ZERO",
            "NAN -ZERO +ZERO NAN NAN -ZERO +ZERO",
            "NAN +ZERO -ZERO +INFINITE -INFINITE +100e1 -100e1",
            "NAN -ZERO +ZERO -INFINITE +INFINITE -100e1 +100e1"};
        for (int a = 0; a < 7; a++) {
            String[] row = rows[a].split(" ");
            for (int b = 0; b < 7; b++) {
                due("order", x.div(7, a, b, NEAREST), 0);
                stored(x, 7, row[b]);
            }
        }
        x = new RoundedNumbers(4);
        x.loadInt(0, 2, NEAREST);
        x.loadInt(1, -3, NEAREST);
        String[] want = {"-1011e0", "-1010e0", "-1010e0", "-1011e0", "-1011e0"};
        int[] orders = {-1, 1, 1, -1, -1};
        for (int mode = 0; mode < 5; mode++) {
            due("order", x.div(2, 0, 1, mode), orders[mode]);
            stored(x, 2, want[mode]);
        }
        x.loadScaled(3, 1, -201, NEAREST);
        x.loadScaled(4, 15, 196, NEAREST);
        due("least by greatest", x.div(2, 3, 4, NEAREST), -1);
        stored(x, 2, "+ZERO");
        due("least by greatest, up", x.div(2, 3, 4, UP), 1);
        stored(x, 2, "+1000e-200");
        due("greatest by least", x.div(2, 4, 3, TO_ZERO), -1);
        stored(x, 2, "+1111e200");
        x.loadInt(5, 12, NEAREST);
        due("into a part", x.div(5, 5, 0, AWAY), 0);
        stored(x, 5, "+1100e3");
        for (int r : NO_REGISTERS) {
            due("to " + r, x.div(r, 0, 1, NEAREST), 9);
            due("of " + r, x.div(5, r, 1, NEAREST), 9);
            due("by " + r, x.div(5, 1, r, NEAREST), 9);
        }
        for (int mode : NO_MODES) {
            due("mode " + mode, x.div(5, 0, 1, mode), 9);
        }
        stored(x, 5, "+1100e3");
    }

    private static void sqrt() {
        says("promise 11");
        RoundedNumbers x = withAllKinds(3);
        String[] want = {"NAN", "+INFINITE", "NAN", "+ZERO", "-ZERO", "+111e1", "NAN"};
        for (int r = 0; r < 7; r++) {
            due("order", x.sqrt(7, r, NEAREST), r == 5 ? 1 : 0);
            stored(x, 7, want[r]);
        }
        x = new RoundedNumbers(93);
        x.loadInt(0, 49, NEAREST);
        due("of a square", x.sqrt(1, 0, AWAY), 0);
        due("of a square", x.whole(1, NEAREST), 7L);
        x.loadScaled(0, 1, -201, NEAREST);
        x.setPrec(1, 5);
        due("of the least, odd", x.sqrt(1, 0, DOWN), -1);
        stored(x, 1, "+10110e-100");
        x.loadScaled(0, 1, -200, NEAREST);
        due("of an even power", x.sqrt(1, 0, UP), 0);
        stored(x, 1, "+10000e-99");
        x.loadInt(0, 2, NEAREST);
        due("of 2, up", x.sqrt(1, 0, UP), 1);
        stored(x, 1, "+10111e1");
        // 4 + 2^-90: its root is a power of 2 and a rest too small for any register.
        x.loadScaled(2, 1, -90, NEAREST);
        x.loadInt(3, 4, NEAREST);
        x.add(3, 3, 2, NEAREST);
        x.setPrec(4, 93);
        due("a small rest", x.sqrt(4, 3, NEAREST), -1);
        stored(x, 4, "+" + oneAndZeros(92) + "e2");
        due("a small rest, up", x.sqrt(4, 3, UP), 1);
        stored(x, 4, "+" + "1" + "0".repeat(91) + "1e2");
        due("itself", x.sqrt(3, 3, TO_ZERO), -1);
        stored(x, 3, "+" + oneAndZeros(92) + "e2");
        for (int r : NO_REGISTERS) {
            due("to " + r, x.sqrt(r, 0, NEAREST), 9);
            due("of " + r, x.sqrt(3, r, NEAREST), 9);
        }
        for (int mode : NO_MODES) {
            due("mode " + mode, x.sqrt(3, 0, mode), 9);
        }
        stored(x, 3, "+" + oneAndZeros(92) + "e2");
    }

    private static void fma() {
        says("promise 12");
        fmaOfPlainOnes();
        RoundedNumbers x = new RoundedNumbers(4);
        x.loadInt(0, 13, NEAREST);
        x.loadInt(1, 11, NEAREST);
        x.loadScaled(2, -9, 4, NEAREST);
        due("rounded once", x.fma(3, 0, 1, 2, NEAREST), 0);
        stored(x, 3, "-1000e1");
        x.loadScaled(4, 1, -150, NEAREST);
        x.loadScaled(5, -1, -201, NEAREST);
        due("a product below all exponents", x.fma(3, 4, 4, 5, UP), 1);
        stored(x, 3, "-ZERO");
        due("a product below all exponents", x.fma(3, 4, 4, 5, NEAREST), -1);
        stored(x, 3, "-1000e-200");
        x.loadScaled(4, 1, 120, NEAREST);
        x.loadScaled(5, -1, 199, NEAREST);
        due("a product above all exponents", x.fma(3, 4, 4, 5, TO_ZERO), -1);
        stored(x, 3, "+1111e200");
        x.loadInt(5, 2, NEAREST);
        x.loadScaled(4, 1, 199, NEAREST);
        x.loadScaled(6, -1, 199, NEAREST);
        due("back from above all exponents", x.fma(3, 4, 5, 6, NEAREST), 0);
        stored(x, 3, "+1000e200");
        x.loadInt(6, -4, NEAREST);
        due("to 0", x.fma(3, 5, 5, 6, UP), 0);
        stored(x, 3, "+ZERO");
        due("to 0, down", x.fma(3, 5, 5, 6, DOWN), 0);
        stored(x, 3, "-ZERO");
        due("into all parts", x.fma(5, 5, 5, 5, NEAREST), 0);
        stored(x, 5, "+1100e3");
        for (int r : NO_REGISTERS) {
            due("to " + r, x.fma(r, 0, 1, 2, NEAREST), 9);
            due("of " + r, x.fma(5, r, 1, 2, NEAREST), 9);
            due("of " + r, x.fma(5, 1, r, 2, NEAREST), 9);
            due("of " + r, x.fma(5, 1, 2, r, NEAREST), 9);
        }
        for (int mode : NO_MODES) {
            due("mode " + mode, x.fma(5, 0, 1, 2, mode), 9);
        }
        stored(x, 5, "+1100e3");
    }

    /** Rows of x, y, z, as withAllKinds numbers them, the mode, and what is due. */
    private static void fmaOfPlainOnes() {
        RoundedNumbers x = withAllKinds(4);
        String[] rows = {
            "0 5 5 0 NAN", "5 0 5 0 NAN", "5 5 0 0 NAN",
            "1 3 5 0 NAN", "4 2 5 0 NAN", "1 3 1 0 NAN",
            "1 5 2 0 NAN", "1 6 1 0 NAN", "1 5 1 0 +INFINITE", "2 5 2 0 -INFINITE",
            "1 6 5 0 -INFINITE", "2 6 4 0 +INFINITE", "5 5 2 0 -INFINITE", "3 5 1 0 +INFINITE",
            "3 5 3 0 +ZERO", "3 5 3 3 +ZERO", "3 6 4 0 -ZERO", "3 6 4 2 -ZERO",
            "3 6 3 0 +ZERO", "3 6 3 3 -ZERO", "4 6 4 0 +ZERO", "4 6 4 3 -ZERO",
            "3 5 6 0 -1100e2", "4 5 5 0 +1100e2", "5 5 3 0 +1001e4", "5 6 3 3 -1001e4"};
        for (String row : rows) {
            String[] part = row.split(" ");
            int mode = Integer.parseInt(part[3]);
            int a = Integer.parseInt(part[0]);
            int b = Integer.parseInt(part[1]);
            due("order of " + row, x.fma(7, a, b, Integer.parseInt(part[2]), mode), 0);
            stored(x, 7, part[4]);
        }
    }

    private static void cmp() {
        says("promise 13");
        RoundedNumbers x = withAllKinds(3);
        int[][] rows = {
            {2, 2, 2, 2, 2, 2, 2},
            {2, 0, 1, 1, 1, 1, 1},
            {2, -1, 0, -1, -1, -1, -1},
            {2, -1, 1, 0, 0, -1, 1},
            {2, -1, 1, 0, 0, -1, 1},
            {2, -1, 1, 1, 1, 0, 1},
            {2, -1, 1, -1, -1, -1, 0}};
        for (int a = 0; a < 7; a++) {
            for (int b = 0; b < 7; b++) {
                due("cmp " + a + " " + b, x.cmp(a, b), rows[a][b]);
            }
        }
        x.setPrec(0, 93);
        x.setPrec(1, 2);
        x.loadInt(0, 3, NEAREST);
        x.loadInt(1, 3, NEAREST);
        due("of other precisions", x.cmp(0, 1), 0);
        x.loadScaled(2, 1, -91, NEAREST);
        x.add(0, 0, 2, NEAREST);
        due("by the last bit", x.cmp(0, 1), 1);
        due("by the last bit", x.cmp(1, 0), -1);
        x.negate(0, 0, NEAREST);
        x.negate(1, 1, NEAREST);
        due("by the last bit, below 0", x.cmp(0, 1), -1);
        x.loadInt(0, 4, NEAREST);
        due("by the exponent", x.cmp(0, 5), 1);
        for (int r : NO_REGISTERS) {
            due("of " + r, x.cmp(r, 5), 2);
            due("with " + r, x.cmp(5, r), 2);
        }
    }

    private static void kindOf() {
        says("promise 14");
        RoundedNumbers x = withAllKinds(3);
        int[] want = {0, 1, 1, 2, 2, 3, 3};
        for (int r = 0; r < 7; r++) {
            due("kindOf " + r, x.kindOf(r), want[r]);
        }
        for (int r : NO_REGISTERS) {
            due("kindOf " + r, x.kindOf(r), -1);
        }
    }

    private static void signOf() {
        says("promise 15");
        RoundedNumbers x = withAllKinds(3);
        int[] want = {0, 1, -1, 1, -1, 1, -1};
        for (int r = 0; r < 7; r++) {
            due("signOf " + r, x.signOf(r), want[r]);
        }
        for (int r : NO_REGISTERS) {
            due("signOf " + r, x.signOf(r), 0);
        }
        x.sqrt(6, 6, NEAREST);
        due("signOf a new NAN", x.signOf(6), 0);
        x.mul(5, 1, 4, NEAREST);
        due("signOf a new NAN", x.signOf(5), 0);
        x.setPrec(2, 5);
        due("signOf after setPrec", x.signOf(2), 0);
    }

    private static void expOf() {
        says("promise 16");
        RoundedNumbers x = withAllKinds(3);
        int[] want = {0, 0, 0, 0, 0, 2, 2};
        for (int r = 0; r < 7; r++) {
            due("expOf " + r, x.expOf(r), want[r]);
        }
        for (int r : NO_REGISTERS) {
            due("expOf " + r, x.expOf(r), 0);
        }
        for (int e = -200; e <= 200; e += 25) {
            x.loadScaled(7, 1, e - 1, NEAREST);
            due("expOf", x.expOf(7), e);
        }
        x.sub(7, 5, 5, NEAREST);
        due("expOf a new ZERO", x.expOf(7), 0);
        x.sqrt(6, 6, NEAREST);
        due("expOf a new NAN", x.expOf(6), 0);
    }

    private static void mantBit() {
        says("promise 17");
        RoundedNumbers x = withAllKinds(93);
        x.loadScaled(7, 0x5555555555555555L, 7, NEAREST);
        for (int i = 0; i < 93; i++) {
            due("mantBit " + i, x.mantBit(7, i), i < 63 && i % 2 == 0 ? 1 : 0);
        }
        x.setPrec(6, 5);
        x.loadInt(6, -22, NEAREST);
        int[] want = {1, 0, 1, 1, 0};
        for (int i = 0; i < 5; i++) {
            due("mantBit " + i, x.mantBit(6, i), want[i]);
        }
        for (int i : new int[] {5, -1, 93, Integer.MIN_VALUE, Integer.MAX_VALUE}) {
            due("mantBit " + i, x.mantBit(6, i), -1);
        }
        for (int r = 0; r < 5; r++) {
            due("mantBit of " + r, x.mantBit(r, 0), -1);
        }
        for (int r : NO_REGISTERS) {
            due("mantBit of " + r, x.mantBit(r, 0), -1);
        }
        due("mantBit 93 of 93", x.mantBit(7, 93), -1);
    }

    /** v * 2^shift and its mirror image, as whole numbers in the modes 0 to 4. */
    private static void wholes(long v, int shift, long... want) {
        RoundedNumbers x = new RoundedNumbers(93);
        x.loadScaled(0, v, shift, NEAREST);
        x.loadScaled(1, -v, shift, NEAREST);
        for (int mode = 0; mode < 5; mode++) {
            String what = v + " * 2^" + shift + " in mode " + mode;
            due(what, x.whole(0, mode), want[mode]);
            due("-" + what, x.whole(1, mode), -want[MIRRORED[mode]]);
        }
    }

    private static void whole() {
        says("promise 18");
        wholes(6, 0, 6, 6, 6, 6, 6);
        wholes(5, -1, 2, 2, 3, 2, 3);
        wholes(7, -1, 4, 3, 4, 3, 4);
        wholes(9, -2, 2, 2, 3, 2, 3);
        wholes(11, -2, 3, 2, 3, 2, 3);
        wholes(1, -1, 0, 0, 1, 0, 1);
        wholes(3, -1, 2, 1, 2, 1, 2);
        wholes(3, -2, 1, 0, 1, 0, 1);
        wholes(1, -2, 0, 0, 1, 0, 1);
        wholes(1, -201, 0, 0, 1, 0, 1);
        wholes(Long.MAX_VALUE, 0, Long.MAX_VALUE, Long.MAX_VALUE, Long.MAX_VALUE, Long.MAX_VALUE, Long.MAX_VALUE);
        wholes(1, 62, 1L << 62, 1L << 62, 1L << 62, 1L << 62, 1L << 62);
        RoundedNumbers x = withAllKinds(3);
        long[] want = {0, Long.MAX_VALUE, Long.MIN_VALUE, 0, 0, 3, -3};
        for (int r = 0; r < 7; r++) {
            for (int mode = 0; mode < 5; mode++) {
                due("whole " + r, x.whole(r, mode), want[r]);
            }
            for (int mode : NO_MODES) {
                due("whole " + r + " in mode " + mode, x.whole(r, mode), 0L);
            }
        }
        for (int r : NO_REGISTERS) {
            due("whole " + r, x.whole(r, NEAREST), 0L);
        }
    }

    private static void wholeAtTheEnds() {
        RoundedNumbers x = new RoundedNumbers(93);
        x.loadScaled(0, 1, -1, NEAREST);
        x.loadScaled(1, Long.MAX_VALUE, 0, NEAREST);
        x.add(1, 1, 0, NEAREST);
        x.negate(2, 1, NEAREST);
        x.loadScaled(3, Long.MIN_VALUE, 0, NEAREST);
        x.sub(4, 3, 0, NEAREST);
        x.loadScaled(5, 1, 199, NEAREST);
        x.loadScaled(6, -1, 199, NEAREST);
        x.loadScaled(7, 1, 63, NEAREST);
        for (int mode = 0; mode < 5; mode++) {
            due("2^63 - 1/2", x.whole(1, mode), Long.MAX_VALUE);
            boolean inside = mode == TO_ZERO || mode == UP;
            due("-2^63 + 1/2", x.whole(2, mode), inside ? -Long.MAX_VALUE : Long.MIN_VALUE);
            due("-2^63", x.whole(3, mode), Long.MIN_VALUE);
            due("-2^63 - 1/2", x.whole(4, mode), Long.MIN_VALUE);
            due("2^199", x.whole(5, mode), Long.MAX_VALUE);
            due("-2^199", x.whole(6, mode), Long.MIN_VALUE);
            due("2^63", x.whole(7, mode), Long.MAX_VALUE);
        }
    }
}
