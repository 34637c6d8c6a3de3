import java.util.Random;

/** Random runs of calls, from a fixed seed, with every answer and state held against Reference. */
public final class AgainstReferenceTest {
    private static final int RUNS = 12000;
    // An object may be used for 512 calls; one step of a run makes fewer than 110 of them.
    private static final int CALLS = 512 - 110;
    private static final int MOST_SHOWN = 20;

    private final Random random = new Random(20261115L);
    private final StringBuilder story = new StringBuilder();
    private int wrong = 0;
    private RoundedNumbers real;
    private Reference model;
    private int style;
    private int calls;

    public static void main(String[] args) {
        AgainstReferenceTest test = new AgainstReferenceTest();
        for (int run = 0; run < RUNS && test.wrong < MOST_SHOWN; run++) {
            test.oneRun(run);
        }
        System.out.println(test.wrong == 0 ? "all answers agree" : test.wrong + " answers differ");
        if (test.wrong != 0) {
            System.exit(1);
        }
    }

    private void oneRun(int run) {
        style = run % 6;
        int bits = style == 0 ? random.nextInt(300) - 100 : precision();
        real = new RoundedNumbers(bits);
        model = new Reference(bits);
        story.setLength(0);
        story.append("new ").append(bits);
        calls = 0;
        int before = wrong;
        while (calls <= CALLS && wrong == before) {
            oneCall();
        }
    }

    private int precision() {
        return switch (style) {
            case 1 -> 1 + random.nextInt(3);
            case 2 -> 86 + random.nextInt(8);
            case 3 -> 1 + random.nextInt(8);
            case 4 -> random.nextBoolean() ? 1 + random.nextInt(4) : 90 + random.nextInt(4);
            default -> 1 + random.nextInt(93);
        };
    }

    private int register() {
        return random.nextInt(60) == 0 ? random.nextInt(40) - 20 : random.nextInt(8);
    }

    private int mode() {
        return random.nextInt(60) == 0 ? random.nextInt(20) - 10 : random.nextInt(5);
    }

    private long number() {
        long v = switch (random.nextInt(6)) {
            case 0 -> random.nextInt(40);
            case 1 -> random.nextLong();
            case 2 -> 1L << random.nextInt(64);
            case 3 -> (1L << random.nextInt(64)) + random.nextInt(3) - 1;
            case 4 -> (1L << random.nextInt(64)) ^ 1L << random.nextInt(64);
            default -> random.nextLong() >> random.nextInt(64);
        };
        return random.nextBoolean() ? v : -v;
    }

    private int shift() {
        return switch (random.nextInt(8)) {
            case 0 -> random.nextInt(620) - 310;
            case 1 -> 200 - random.nextInt(70);
            case 2 -> -200 - random.nextInt(70);
            case 3 -> -100 - random.nextInt(10);
            case 4 -> 100 - random.nextInt(10);
            case 5 -> -random.nextInt(90);
            default -> random.nextInt(20) - 10;
        };
    }

    private void oneCall() {
        int what = random.nextInt(100);
        if (what < 28) {
            load();
        } else if (what < 30) {
            int r = register();
            int bits = random.nextInt(10) == 0 ? random.nextInt(200) - 50 : precision();
            due("setPrec " + r + " " + bits, real.setPrec(r, bits) ? 1 : 0, model.setPrec(r, bits) ? 1 : 0);
            compareState(r);
        } else if (what < 40) {
            int r = register();
            int mode = mode();
            due("whole " + r + " " + mode, real.whole(r, mode), model.whole(r, mode));
        } else if (what < 43) {
            cancel();
        } else if (what < 48) {
            int x = register();
            int y = register();
            due("cmp " + x + " " + y, real.cmp(x, y), model.cmp(x, y));
        } else {
            operate(what);
        }
    }

    private void load() {
        int r = register();
        int mode = mode();
        if (random.nextInt(3) == 0) {
            int v = (int) number();
            due("loadInt " + r + " " + v + " " + mode, real.loadInt(r, v, mode), model.loadScaled(r, v, 0, mode));
        } else {
            long v = number();
            int shift = shift();
            due("loadScaled " + r + " " + v + " " + shift + " " + mode,
                    real.loadScaled(r, v, shift, mode), model.loadScaled(r, v, shift, mode));
        }
        compareState(r);
    }

    private void operate(int what) {
        int d = register();
        int x = register();
        int y = register();
        int z = register();
        int mode = mode();
        String args = " " + d + " " + x + " " + y + " " + z + " " + mode;
        if (what < 52) {
            due("copy" + args, real.copy(d, x, mode), model.copy(d, x, mode));
        } else if (what < 56) {
            due("negate" + args, real.negate(d, x, mode), model.negate(d, x, mode));
        } else if (what < 64) {
            due("add" + args, real.add(d, x, y, mode), model.add(d, x, y, mode));
        } else if (what < 70) {
            due("sub" + args, real.sub(d, x, y, mode), model.sub(d, x, y, mode));
        } else if (what < 76) {
            due("mul" + args, real.mul(d, x, y, mode), model.mul(d, x, y, mode));
        } else if (what < 83) {
            due("div" + args, real.div(d, x, y, mode), model.div(d, x, y, mode));
        } else if (what < 88) {
            due("sqrt" + args, real.sqrt(d, x, mode), model.sqrt(d, x, mode));
        } else {
            due("fma" + args, real.fma(d, x, y, z, mode), model.fma(d, x, y, z, mode));
        }
        compareState(d);
    }

    /** What rounding left off, by sums that cancel nearly all their bits; and roots of squares. */
    private void cancel() {
        int x = random.nextInt(8);
        int y = random.nextInt(8);
        int z = random.nextInt(8);
        int mode = mode();
        String args = " " + x + " " + y + " " + z + " " + mode;
        due("mul z, x, y:" + args, real.mul(z, x, y, mode), model.mul(z, x, y, mode));
        if (random.nextInt(3) == 0) {
            due("sqrt z, z", real.sqrt(z, z, mode), model.sqrt(z, z, mode));
        } else {
            due("negate z, z", real.negate(z, z, mode), model.negate(z, z, mode));
            due("fma z, x, y, z", real.fma(z, x, y, z, mode), model.fma(z, x, y, z, mode));
        }
        compareState(z);
    }

    private void compareState(int r) {
        due("kindOf " + r, real.kindOf(r), model.kindOf(r));
        due("signOf " + r, real.signOf(r), model.signOf(r));
        due("expOf " + r, real.expOf(r), model.expOf(r));
        if (random.nextInt(4) == 0) {
            compareBits(r);
        }
    }

    private void compareBits(int r) {
        for (int i = -1; i < 94; i++) {
            calls++;
            int got = real.mantBit(r, i);
            int want = model.mantBit(r, i);
            if (got != want) {
                due("mantBit " + r + " " + i, got, want);
                return;
            }
        }
    }

    private void due(String call, long got, long want) {
        calls++;
        story.append("; ").append(call);
        if (got != want) {
            wrong++;
            System.out.println(story + " answered " + got + ", due is " + want);
        }
    }
}
