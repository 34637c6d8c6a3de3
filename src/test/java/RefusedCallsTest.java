import java.util.ArrayList;
import java.util.List;

/**
 * A refused call answers as due, and nothing is done: all eight registers keep their kind, sign,
 * exponent, bits and precision. Calls that only read do nothing either.
 */
public final class RefusedCallsTest extends Checks {
    private static final String[] VALUES = {
        "NAN", "+INFINITE", "-INFINITE", "+ZERO", "-ZERO", "+101101e200", "-1100111e-200", "+1e1"};
    private static final int[] PRECISIONS = {1, 2, 3, 93, 5, 6, 7, 1};
    private static final int[] NO_SHIFTS = {
        -301, 301, -302, 302, 512, -65536, 65536, Integer.MIN_VALUE, Integer.MAX_VALUE};
    private static final int[] NO_PRECISIONS = {
        0, 94, -1, 95, 256 + 5, 65536 + 5, 5 - 256, Integer.MIN_VALUE, Integer.MAX_VALUE};

    /** A call on an object, and its answer as text. */
    private interface Call {
        Object on(RoundedNumbers x);
    }

    public static void main(String[] args) {
        says("Promise 2: false when there is no such register");
        setPrecOfNoRegister();
        says("Promise 2: false when .. bits is not 1 .. 93");
        setPrecToNoPrecision();
        says("OPERATIONS: 9, and nothing is done, when there is no such register; promises 3 and 4");
        loadIntoNoRegister();
        says("OPERATIONS: 9, and nothing is done, when there is no such .. mode; promises 3 and 4");
        loadInNoMode();
        says("Promise 4: Also 9 when shift is not -300 .. 300");
        loadByNoShift();
        says("OPERATIONS: 9, and nothing is done, when there is no such register; promises 5 to 12");
        operateOnNoRegister();
        says("OPERATIONS: 9, and nothing is done, when there is no such .. mode; promises 5 to 12");
        operateInNoMode();
        says("Promises 13 to 18: calls that read leave all as it is");
        read();
        end();
    }

    private static RoundedNumbers filled() {
        RoundedNumbers x = new RoundedNumbers(4);
        // The last one last: it is where values are built.
        for (int r = 0; r < 8; r++) {
            put(x, r, VALUES[r]);
        }
        for (int r = 0; r < 5; r++) {
            x.setPrec(r, PRECISIONS[r]);
            putPlain(x, r, VALUES[r]);
        }
        return x;
    }

    private static void standsAfter(String what, Object want, Call call) {
        RoundedNumbers x = filled();
        due(what, call.on(x), want);
        for (int r = 0; r < 8; r++) {
            due("register " + r + " after " + what, text(x, r), VALUES[r]);
        }
        for (int r = 0; r < 8; r++) {
            due("precision of " + r + " after " + what, precisionOf(x, r), PRECISIONS[r]);
        }
    }

    private static void setPrecOfNoRegister() {
        for (int r : NO_REGISTERS) {
            for (int bits : new int[] {0, 1, 4, 93, 94}) {
                standsAfter("setPrec " + r + " " + bits, false, x -> x.setPrec(r, bits));
            }
        }
    }

    private static void setPrecToNoPrecision() {
        for (int bits : NO_PRECISIONS) {
            for (int r = 0; r < 8; r++) {
                int register = r;
                standsAfter("setPrec " + r + " " + bits, false, x -> x.setPrec(register, bits));
            }
        }
    }

    private static void loadIntoNoRegister() {
        for (int r : NO_REGISTERS) {
            for (int v : new int[] {0, 1, -9}) {
                standsAfter("loadInt " + r + " " + v, 9, x -> x.loadInt(r, v, NEAREST));
                standsAfter("loadScaled " + r + " " + v, 9, x -> x.loadScaled(r, v, 0, NEAREST));
                standsAfter("loadScaled " + r + " " + v + " by 2^301", 9, x -> x.loadScaled(r, v, 301, NEAREST));
            }
        }
    }

    private static void loadInNoMode() {
        for (int mode : NO_MODES) {
            for (int r = 0; r < 8; r++) {
                int register = r;
                for (int v : new int[] {0, 1, -9}) {
                    String what = " " + r + " " + v + " in mode " + mode;
                    standsAfter("loadInt" + what, 9, x -> x.loadInt(register, v, mode));
                    standsAfter("loadScaled" + what, 9, x -> x.loadScaled(register, v, 0, mode));
                }
            }
            standsAfter("loadInt into -1 in mode " + mode, 9, x -> x.loadInt(-1, 5, mode));
        }
    }

    private static void loadByNoShift() {
        for (int shift : NO_SHIFTS) {
            for (int r = 0; r < 8; r++) {
                int register = r;
                for (long v : new long[] {0, 1, -9, Long.MIN_VALUE, Long.MAX_VALUE}) {
                    String what = "loadScaled " + r + " " + v + " by 2^" + shift;
                    standsAfter(what, 9, x -> x.loadScaled(register, v, shift, NEAREST));
                    standsAfter(what + " in no mode", 9, x -> x.loadScaled(register, v, shift, 5));
                }
            }
        }
    }

    /** Registers of a call, one of which is none: where it stores, and its parts. */
    private static List<int[]> withOneThatIsNone(int parts) {
        List<int[]> all = new ArrayList<>();
        int[] good = {5, 6, 7, 3};
        for (int none : NO_REGISTERS) {
            for (int at = 0; at <= parts; at++) {
                int[] r = good.clone();
                r[at] = none;
                all.add(r);
            }
            all.add(new int[] {none, none, none, none});
        }
        return all;
    }

    private static void operateOnNoRegister() {
        for (String operation : OPERATIONS) {
            for (int[] r : withOneThatIsNone(partsOf(operation))) {
                String what = operation + " " + r[0] + " " + r[1] + " " + r[2] + " " + r[3];
                standsAfter(what, 9, x -> operate(x, operation, NEAREST, r));
                standsAfter(what + " in mode 5", 9, x -> operate(x, operation, 5, r));
            }
            intoEachFromNone(operation);
        }
    }

    private static void intoEachFromNone(String operation) {
        for (int d = 0; d < 8; d++) {
            int into = d;
            standsAfter(operation + " into " + d + " from 8", 9, x -> operate(x, operation, NEAREST, into, 8, 8, 8));
            standsAfter(operation + " into " + d + " from -1", 9, x -> operate(x, operation, UP, into, -1, -1, -1));
        }
    }

    private static void operateInNoMode() {
        for (String operation : OPERATIONS) {
            for (int mode : NO_MODES) {
                for (int d = 0; d < 8; d++) {
                    int into = d;
                    String what = operation + " into " + d + " in mode " + mode;
                    standsAfter(what, 9, x -> operate(x, operation, mode, into, 5, 6, 7));
                    standsAfter(what + " of itself", 9, x -> operate(x, operation, mode, into, into, into, into));
                    standsAfter(what + " of NAN", 9, x -> operate(x, operation, mode, into, 0, 0, 0));
                }
            }
        }
    }

    private static void read() {
        for (int r = -1; r <= 8; r++) {
            boolean isNone = r < 0 || r > 7;
            int register = r;
            standsAfter("cmp " + r, true, x -> x.cmp(register, 5) == 2 == (isNone || register == 0));
            standsAfter("kindOf " + r, isNone, x -> x.kindOf(register) == -1);
            standsAfter("signOf " + r, isNone || r == 0, x -> x.signOf(register) == 0);
            standsAfter("expOf " + r, isNone || r < 5, x -> x.expOf(register) == 0);
            standsAfter("mantBit " + r, isNone || r < 5, x -> x.mantBit(register, 0) == -1);
            for (int mode = -1; mode <= 5; mode++) {
                int in = mode;
                boolean isNothing = isNone || mode < 0 || mode > 4 || r == 0 || r == 3 || r == 4
                        || r == 6 && mode <= 2;
                standsAfter("whole " + r + " in mode " + mode, isNothing, x -> x.whole(register, in) == 0);
            }
        }
    }
}
