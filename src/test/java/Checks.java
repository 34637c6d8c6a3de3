/**
 * What the tests by hand share. A value is told as text: its sign, the bits of m, an 'e' and its
 * exponent, as in "+101e3"; or NAN, +INFINITE, -INFINITE, +ZERO, -ZERO. A call is told as its name
 * and the values of its parts, as in "add +101e3 -ZERO"; "load v shift" is loadScaled.
 */
abstract class Checks {
    static final int NEAREST = 0;
    static final int TO_ZERO = 1;
    static final int UP = 2;
    static final int DOWN = 3;
    static final int AWAY = 4;
    static final int[] MIRRORED = {NEAREST, TO_ZERO, DOWN, UP, AWAY};

    // One step beyond, far beyond, and what would be a register or mode if high bits were cut off.
    static final int[] NO_REGISTERS = {-1, 8, -8, 16, 256, 65536, Integer.MIN_VALUE, Integer.MAX_VALUE};
    static final int[] NO_MODES = {-1, 5, 8, 256, 65536, Integer.MIN_VALUE, Integer.MAX_VALUE};

    static final String[] OPERATIONS = {"copy", "negate", "sqrt", "add", "sub", "mul", "div", "fma"};
    static final String[] PLAIN_KINDS = {"NAN", "+INFINITE", "-INFINITE", "+ZERO", "-ZERO"};
    static final String[] ALL_KINDS = {"NAN", "+INFINITE", "-INFINITE", "+ZERO", "-ZERO", "+101e3", "-11e-2"};

    private static final int PLAIN_PREC = 4;
    private static final int SCRATCH = 7;
    private static final int LOAD_BITS = 60;

    private static int wrong = 0;
    private static int sentences = 0;
    private static String sentence = "";

    /** Which sentence of the document the checks that follow are for. */
    static void says(String words) {
        sentences++;
        sentence = words;
    }

    static void due(String what, Object got, Object want) {
        if (!got.equals(want)) {
            wrong++;
            System.out.println(sentence + ": " + what + " gave " + got + ", due is " + want);
        }
    }

    static void end() {
        System.out.println(wrong == 0
                ? sentences + " sentences hold" : wrong + " answers are not as due");
        if (wrong != 0) {
            System.exit(1);
        }
    }

    static void stored(RoundedNumbers x, int r, String want) {
        due("register " + r, text(x, r), want);
    }

    static String text(RoundedNumbers x, int r) {
        String sign = switch (x.signOf(r)) {
            case 1 -> "+";
            case -1 -> "-";
            case 0 -> "";
            default -> "a wrong sign and ";
        };
        switch (x.kindOf(r)) {
            case 0:
                return sign + "NAN";
            case 1:
                return sign + "INFINITE";
            case 2:
                return sign + "ZERO";
            default:
                StringBuilder bits = new StringBuilder(sign);
                int bit = x.mantBit(r, 0);
                for (int i = 1; bit >= 0; i++) {
                    bits.append(bit);
                    bit = x.mantBit(r, i);
                }
                return bits.append('e').append(x.expOf(r)).toString();
        }
    }

    /** Found by loading a 1, which is the end of what the register held. */
    static int precisionOf(RoundedNumbers x, int r) {
        x.loadInt(r, 1, NEAREST);
        return text(x, r).length() - "+e1".length();
    }

    static String ones(int count) {
        return "1".repeat(count);
    }

    static String zeros(int count) {
        return "0".repeat(count);
    }

    static String oneAndZeros(int zeros) {
        return "1" + zeros(zeros);
    }

    /** The greatest REGULAR value of so many bits. */
    static String greatest(int prec) {
        return "+" + ones(prec) + "e200";
    }

    /** The least REGULAR value above 0 of so many bits, which is s. */
    static String least(int prec) {
        return "+" + oneAndZeros(prec - 1) + "e-200";
    }

    /** Gives register r this value, and the precision that its bits tell; uses register 7. */
    static void put(RoundedNumbers x, int r, String value) {
        int point = value.indexOf('e');
        if (point < 0) {
            x.setPrec(r, PLAIN_PREC);
            putPlain(x, r, value);
            return;
        }
        String bits = value.substring(1, point);
        int first = Math.min(LOAD_BITS, bits.length());
        // Built between 1 and 2, and moved then: its low bits alone may lie below all exponents.
        due("precision for " + value, x.setPrec(r, bits.length()), true);
        x.setPrec(SCRATCH, bits.length());
        x.loadScaled(r, Long.parseLong(bits.substring(0, first), 2), 1 - first, NEAREST);
        if (first < bits.length()) {
            x.loadScaled(SCRATCH, Long.parseLong(bits.substring(first), 2), 1 - bits.length(), NEAREST);
            x.add(r, r, SCRATCH, NEAREST);
        }
        x.loadScaled(SCRATCH, value.charAt(0) == '-' ? -1 : 1, Integer.parseInt(value.substring(point + 1)) - 1, NEAREST);
        x.mul(r, r, SCRATCH, NEAREST);
    }

    /** A plain kind for a register that is NAN. */
    static void putPlain(RoundedNumbers x, int r, String kind) {
        if (kind.equals("NAN")) {
            return;
        }
        // What stood there before must not show through.
        x.loadInt(r, -5, NEAREST);
        int sign = kind.charAt(0) == '-' ? -1 : 1;
        if (kind.endsWith("INFINITE")) {
            x.loadScaled(r, sign, 300, AWAY);
        } else {
            x.loadScaled(r, sign, -300, TO_ZERO);
        }
    }

    /** How many registers the operation reads. */
    static int partsOf(String operation) {
        return switch (operation) {
            case "copy", "negate", "sqrt" -> 1;
            case "add", "sub", "mul", "div" -> 2;
            default -> 3;
        };
    }

    /** The operation on registers: where it stores first, then its parts; the rest is left out. */
    static int operate(RoundedNumbers x, String operation, int mode, int... r) {
        return switch (operation) {
            case "copy" -> x.copy(r[0], r[1], mode);
            case "negate" -> x.negate(r[0], r[1], mode);
            case "sqrt" -> x.sqrt(r[0], r[1], mode);
            case "add" -> x.add(r[0], r[1], r[2], mode);
            case "sub" -> x.sub(r[0], r[1], r[2], mode);
            case "mul" -> x.mul(r[0], r[1], r[2], mode);
            case "div" -> x.div(r[0], r[1], r[2], mode);
            default -> x.fma(r[0], r[1], r[2], r[3], mode);
        };
    }

    /** What the call stores in a register of this precision, and the order. */
    static String result(int prec, int mode, String call) {
        String[] words = call.split(" ");
        RoundedNumbers x = new RoundedNumbers(prec);
        if (words[0].equals("load")) {
            int order = x.loadScaled(0, Long.parseLong(words[1]), Integer.parseInt(words[2]), mode);
            return shown(x, call) + " " + order;
        }
        for (int i = 1; i < words.length; i++) {
            put(x, i, words[i]);
        }
        int order = operate(x, words[0], mode, 0, 1, 2, 3);
        for (int i = 1; i < words.length; i++) {
            due("part " + i + " of " + call + " after it", text(x, i), words[i]);
        }
        return shown(x, call) + " " + order;
    }

    /** What register 0 shows; it must also be no more than that. */
    private static String shown(RoundedNumbers x, String call) {
        String text = text(x, 0);
        put(x, 4, text);
        due("cmp with what is shown after " + call, x.cmp(0, 4), text.equals("NAN") ? 2 : 0);
        return text;
    }

    static void inMode(int prec, int mode, String call, String want) {
        due(call + " to " + prec + " bits in mode " + mode, result(prec, mode, call), want);
    }

    static void inEveryMode(int prec, String call, String want) {
        for (int mode = NEAREST; mode <= AWAY; mode++) {
            inMode(prec, mode, call, want);
        }
    }

    /** The same in the modes 0 to 4, but for DOWN. */
    static void butForDown(int prec, String call, String want, String wantDown) {
        for (int mode = NEAREST; mode <= AWAY; mode++) {
            inMode(prec, mode, call, mode == DOWN ? wantDown : want);
        }
    }

    /** The result is above 0 and needs no rounding; and so with the other sign. */
    static void exactly(int prec, String call, String value) {
        inEveryMode(prec, call, value + " 0");
        if (!isRoot(call)) {
            inEveryMode(prec, turned(call), turnedValue(value) + " 0");
        }
    }

    /** The result is above 0 and lies between f and g, nearer to f; and so with the other sign. */
    static void nearF(int prec, String call, String f, String g) {
        between(prec, call, f, g, false);
    }

    /** The result is above 0 and lies between f and g, nearer to g; and so with the other sign. */
    static void nearG(int prec, String call, String f, String g) {
        between(prec, call, f, g, true);
    }

    private static void between(int prec, String call, String f, String g, boolean nearG) {
        for (int mode = NEAREST; mode <= AWAY; mode++) {
            boolean grows = mode == UP || mode == AWAY || mode == NEAREST && nearG;
            inMode(prec, mode, call, grows ? g + " 1" : f + " -1");
            if (!isRoot(call)) {
                inMode(prec, MIRRORED[mode], turned(call), grows ? turnedValue(g) + " -1" : turnedValue(f) + " 1");
            }
        }
    }

    /** A root has no mirror image: none is below 0. */
    private static boolean isRoot(String call) {
        return call.startsWith("sqrt");
    }

    /** The call whose exact result has the other sign. */
    static String turned(String call) {
        String[] words = call.split(" ");
        switch (words[0]) {
            case "load":
                return "load " + -Long.parseLong(words[1]) + " " + words[2];
            case "add", "sub":
                return words[0] + " " + turnedValue(words[1]) + " " + turnedValue(words[2]);
            case "fma":
                return "fma " + turnedValue(words[1]) + " " + words[2] + " " + turnedValue(words[3]);
            default:
                words[1] = turnedValue(words[1]);
                return String.join(" ", words);
        }
    }

    static String turnedValue(String value) {
        return switch (value.charAt(0)) {
            case '+' -> "-" + value.substring(1);
            case '-' -> "+" + value.substring(1);
            default -> value;
        };
    }
}
