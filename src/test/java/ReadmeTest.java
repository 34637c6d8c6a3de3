/** The example of README.md, line for line, answers what README.md says of it. */
public final class ReadmeTest extends Checks {
    public static void main(String[] args) {
        says("README.md: the example");
        RoundedNumbers x = new RoundedNumbers(53);
        due("a new register", text(x, 2), "NAN");
        x.loadInt(0, 1, 0);
        stored(x, 0, "+" + oneAndZeros(52) + "e1");
        x.loadInt(1, 3, 0);
        stored(x, 1, "+11" + zeros(51) + "e2");
        int order = x.div(2, 0, 1, 0);
        due("1 / 3", order, -1);
        stored(x, 2, "+" + "10".repeat(26) + "1e-1");
        x.setPrec(4, 5);
        stored(x, 4, "NAN");
        order = x.copy(4, 2, 2);
        due("1 / 3, rounded up", order, 1);
        stored(x, 4, "+10110e-1");
        int exponent = x.expOf(4);
        due("its exponent", exponent, -1);
        long near = x.whole(1, 0);
        due("3 as a whole number", near, 3L);
        end();
    }
}
