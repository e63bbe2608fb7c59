/** The Terms before the ACTS: a FLOAT, a DOUBLE, how they are rounded, and NaN as a result. */
public final class RoundingEdgesTest {
    private static final Check CHECK = new Check("RoundingEdgesTest");

    public static void main(String[] args) {
        for (Kind k : Kind.both(CHECK)) {
            ieeeForm(k);
            sumsRounded(k);
            productsRounded(k);
            quotientsRounded(k);
            rootsRounded(k);
            productsWithSumRounded(k);
            sumBesideTheTie(k);
            tooLarge(k);
            tooSmall(k);
            roundedOnce(k);
            nanAsResult(k);
            nanOfNumbers(k);
            bitsAlone(k);
        }
        CHECK.end();
    }

    private static void due(Kind k, int act, long a, long b, long c, long want) {
        String call = k.name + " ACT " + act + " of " + k.told(a) + ", " + k.told(b) + ", " + k.told(c);
        CHECK.due(call, k.act(act, a, b, c), want);
    }

    private static void due(Kind k, int act, long a, long b, long want) {
        due(k, act, a, b, 0, want);
    }

    private static void ieeeForm(Kind k) {
        CHECK.sentence("A FLOAT is a word (32 bits) with the bits of the IEEE form, a DOUBLE a long (64 bits) "
            + "likewise.");
        due(k, 0, k.one, k.one, k.of(2));
        due(k, 0, k.small, k.least, k.normal);
        due(k, 1, k.normal, k.least, k.small);
        due(k, 0, k.least, k.least, 2);
        due(k, 1, k.least, k.least, 0);
        due(k, 0, k.greatest, k.minus(k.greatest), 0);
        due(k, 2, k.two(k.bias), k.two(-k.bias), k.one);
        due(k, 2, k.normal, k.two(-k.fraction), k.least);
        due(k, 2, k.least, k.two(k.fraction), k.normal);
        due(k, 3, k.normal, k.two(k.fraction), k.least);
        due(k, 3, k.greatest, k.greatest, k.one);
        due(k, 3, k.least, k.least, k.one);
    }

    private static final String ROUNDED = "What is reckoned is rounded once, to the nearest, ties to even, "
        + "unless it is told otherwise.";

    private static void sumsRounded(Kind k) {
        CHECK.sentence(ROUNDED + " (sums)");
        long tie = k.two(-k.fraction - 1);
        due(k, 0, k.one, tie, k.one);
        due(k, 0, k.one, tie - 1, k.one);
        due(k, 0, k.one, tie + 1, k.one + 1);
        due(k, 0, k.one + 1, tie, k.one + 2);
        due(k, 0, k.one + 1, tie - 1, k.one + 1);
        due(k, 0, k.one + 1, tie + 1, k.one + 2);
        due(k, 0, k.minus(k.one), k.minus(tie), k.minus(k.one));
        due(k, 0, k.minus(k.one + 1), k.minus(tie), k.minus(k.one + 2));
        due(k, 1, k.one, k.minus(tie), k.one);
        due(k, 1, k.one + 1, k.minus(tie), k.one + 2);
        // Below 1 the numbers lie twice as close.
        due(k, 1, k.one, tie, k.one - 1);
        due(k, 1, k.one, tie - k.normal, k.one);
        due(k, 1, k.one, tie - k.normal + 1, k.one - 1);
        due(k, 1, k.one, k.least, k.one);
        due(k, 1, k.one, k.minus(k.least), k.one);
        due(k, 0, k.least, k.one, k.one);
    }

    private static void productsRounded(Kind k) {
        CHECK.sentence(ROUNDED + " (products)");
        long threeHalves = k.halves(3);
        due(k, 2, k.one + 1, threeHalves, threeHalves + 2);
        due(k, 2, k.one + 3, threeHalves, threeHalves + 4);
        due(k, 2, k.minus(k.one + 3), threeHalves, k.minus(threeHalves + 4));
        due(k, 2, k.one + 1, k.one + 1, k.one + 2);
        due(k, 2, k.one - 1, k.one - 1, k.one - 2);
        due(k, 2, k.of(2) - 1, k.of(2) - 1, k.of(4) - 2);
        // 2.25 and four and a half steps, and a rest of 9 in the last of all the product's bits.
        due(k, 2, threeHalves + 3, threeHalves + 3, k.of(9) - 2 * k.normal + 5);
        due(k, 2, threeHalves + 3, k.minus(threeHalves + 3), k.minus(k.of(9) - 2 * k.normal + 5));
    }

    private static void quotientsRounded(Kind k) {
        CHECK.sentence(ROUNDED + " (quotients)");
        due(k, 3, k.one, k.of(3), k.fraction == 23 ? 0x3EAAAAABL : 0x3FD5555555555555L);
        due(k, 3, k.one, k.one + 1, k.one - 2);
        due(k, 3, k.one, k.one - 1, k.one + 1);
        due(k, 3, k.one + 1, k.one - 1, k.one + 2);
        due(k, 3, k.minus(k.one), k.one + 1, k.minus(k.one - 2));
    }

    private static void rootsRounded(Kind k) {
        CHECK.sentence(ROUNDED + " (roots)");
        // Each of the first three lies just below a tie.
        due(k, 6, k.one + 1, 0, k.one);
        due(k, 6, k.one - 1, 0, k.one - 1);
        due(k, 6, k.greatest, 0, k.two((k.bias + 1) / 2) - 1);
        // This one lies just above a tie.
        long steps = k.fraction == 23 ? 2896 : 1L << 26;
        due(k, 6, k.one + 2 * steps, 0, k.one + steps);
        due(k, 6, k.one + 2, 0, k.one + 1);
        due(k, 6, k.one + 3, 0, k.one + 1);
        due(k, 6, k.normal, 0, k.two((1 - k.bias) / 2));
        due(k, 6, k.two(k.bias - 1), 0, k.two((k.bias - 1) / 2));
        due(k, 6, k.fraction == 23 ? 2 : 1, 0, k.two(k.fraction == 23 ? -74 : -537));
    }

    private static void productsWithSumRounded(Kind k) {
        CHECK.sentence(ROUNDED + " (20)");
        long threeHalves = k.halves(3);
        due(k, 20, k.one + 1, k.one + 1, k.minus(k.one + 2), k.two(-2 * k.fraction));
        due(k, 20, k.one - 1, k.one + 1, k.minus(k.one), k.two(-k.fraction - 1) - 2);
        // The least number turns a tie, from either side.
        due(k, 20, k.one + 1, threeHalves, k.least, threeHalves + 2);
        due(k, 20, k.one + 1, threeHalves, k.minus(k.least), threeHalves + 1);
        due(k, 20, k.one + 3, threeHalves, k.least, threeHalves + 5);
        due(k, 20, k.one + 3, threeHalves, k.minus(k.least), threeHalves + 4);
        due(k, 20, k.one + 3, threeHalves, 0, threeHalves + 4);
        for (int e = -k.fraction - 2; e >= 1 - k.bias - k.fraction; e--) {
            long[] sizes = {k.two(e), k.two(e + 1) - 1};
            for (long c : sizes) {
                due(k, 20, k.one + 3, threeHalves, c, threeHalves + 5);
                due(k, 20, k.one + 3, threeHalves, k.minus(c), threeHalves + 4);
                due(k, 20, k.minus(k.one + 1), threeHalves, c, k.minus(threeHalves + 1));
                due(k, 20, k.minus(k.one + 1), threeHalves, k.minus(c), k.minus(threeHalves + 2));
            }
        }
        // The product of the least ones is far below them, but turns a tie, too.
        long tie = k.two(-k.fraction - 1);
        due(k, 20, k.least, k.least, k.one, k.one);
        due(k, 20, tie, k.one, k.one, k.one);
        due(k, 20, tie, k.one + 1, k.one, k.one + 1);
        due(k, 20, tie, k.one - 1, k.one + 1, k.one + 1);
        if (k.fraction == 52) {
            // (1 + x) (1 - x + x x) is 1 + x x x: a tie, and 125 times 2 to the -78 of it.
            long x = 5L << 26;
            due(k, 20, k.one + x - 53 * k.normal, k.one - 2 * x + 50, k.one, k.one + 1);
            due(k, 20, k.one + x - 53 * k.normal, k.minus(k.one - 2 * x + 50), k.minus(k.one), k.minus(k.one + 1));
        }
        // What is too large as a product alone comes back.
        due(k, 20, k.greatest, k.of(2), k.minus(k.greatest), k.greatest);
        due(k, 20, k.minus(k.greatest), k.of(2), k.greatest, k.minus(k.greatest));
    }

    /** The product lies so far beside a tie that c does not reach it, and twice c crosses it. */
    private static void sumBesideTheTie(Kind k) {
        CHECK.sentence(ROUNDED + " (20, beside a tie)");
        long a = k.halves(3);
        long square = k.of(9) - 2 * k.normal;
        for (int s = 3; s <= (k.fraction - 2) / 2; s++) {
            long far = 1L << s;
            int size = 2 * s - 2 * k.fraction;
            // 2.25, four and a half steps, less about 2 to the size.
            due(k, 20, a + far + 6, a - far, k.two(size), square + 4);
            due(k, 20, a + far + 6, a - far, k.two(size + 1), square + 5);
            due(k, 20, a + far + 6, k.minus(a - far), k.minus(k.two(size)), k.minus(square + 4));
            due(k, 20, a + far + 6, k.minus(a - far), k.minus(k.two(size + 1)), k.minus(square + 5));
            // Just what lacks makes it a tie again.
            due(k, 20, a + far + 6, a - far, lacking(k, far), square + 4);
            due(k, 20, a + 3 * far + 6, a - 3 * far, lacking(k, 3 * far), square + 4);
            // 2.25, steps and a half, and about 2 to the size more.
            long steps = 3 * far / 2 + 1;
            due(k, 20, a + far + 1, a + far + 1, k.minus(k.two(size)), square + steps + 1);
            due(k, 20, a + far + 1, a + far + 1, k.minus(k.two(size + 1)), square + steps);
            due(k, 20, a + far + 1, k.minus(a + far + 1), k.two(size), k.minus(square + steps + 1));
            due(k, 20, a + far + 1, k.minus(a + far + 1), k.two(size + 1), k.minus(square + steps));
        }
        // Less 7, or 9 more, of the last of all the product's bits: nothing smaller reaches the tie.
        for (int e = 2 - 2 * k.fraction; e >= 1 - k.bias - k.fraction; e--) {
            due(k, 20, a + 7, a - 1, k.two(e), square + 4);
            due(k, 20, a + 3, a + 3, k.minus(k.two(e)), square + 5);
        }
    }

    /** far times (far + 6), of the last of all the product's bits. */
    private static long lacking(Kind k, long far) {
        return k.of(far * (far + 6)) - 2 * k.fraction * k.normal;
    }

    private static void tooLarge(Kind k) {
        CHECK.sentence(ROUNDED + " (too large)");
        long tie = k.two(k.bias - k.fraction - 1);
        due(k, 0, k.greatest, tie, k.infinite);
        due(k, 0, k.greatest, tie - 1, k.greatest);
        due(k, 0, k.minus(k.greatest), k.minus(tie), k.minus(k.infinite));
        due(k, 0, k.minus(k.greatest), k.minus(tie - 1), k.minus(k.greatest));
        due(k, 0, k.greatest, k.greatest, k.infinite);
        due(k, 1, k.minus(k.greatest), k.greatest, k.minus(k.infinite));
        due(k, 0, k.two(k.bias), k.two(k.bias), k.infinite);
        due(k, 0, k.greatest, k.least, k.greatest);
        due(k, 2, k.greatest, k.one + 1, k.infinite);
        due(k, 2, k.greatest, k.one - 1, k.greatest - 1);
        due(k, 2, k.greatest, k.minus(k.greatest), k.minus(k.infinite));
        due(k, 2, k.two(k.bias), k.of(2), k.infinite);
        due(k, 3, k.greatest, k.one - 1, k.infinite);
        due(k, 3, k.greatest, k.halves(1), k.infinite);
        due(k, 3, k.minus(k.one), k.least, k.minus(k.infinite));
        due(k, 3, k.one, k.normal, k.two(k.bias - 1));
        due(k, 20, k.greatest, k.one, tie, k.infinite);
        due(k, 20, k.greatest, k.one, tie - 1, k.greatest);
    }

    private static void tooSmall(Kind k) {
        CHECK.sentence(ROUNDED + " (too small)");
        long half = k.halves(1);
        due(k, 2, k.least, half, 0);
        due(k, 2, k.least, half + 1, 1);
        due(k, 2, k.least, half - 1, 0);
        due(k, 2, 3, half, 2);
        due(k, 2, 5, half, 2);
        due(k, 2, k.minus(k.least), half, k.sign);
        due(k, 2, k.minus(k.least), half + 1, k.minus(1));
        due(k, 2, k.minus(3), k.minus(half), 2);
        due(k, 2, k.least, k.least, 0);
        due(k, 2, k.least, k.minus(k.least), k.sign);
        due(k, 2, k.normal, k.one - 1, k.normal);
        due(k, 2, k.normal, k.one - 2, k.small);
        due(k, 3, k.least, k.of(2), 0);
        due(k, 3, k.least, k.of(2) - 1, 1);
        due(k, 3, 3, k.of(2), 2);
        due(k, 3, k.minus(k.least), k.greatest, k.sign);
        due(k, 3, k.one, k.greatest, k.two(-k.bias - 1));
        due(k, 3, k.one, k.two(k.bias), k.two(-k.bias));
        due(k, 20, k.least, half, k.least, 2);
        due(k, 20, k.least, half, k.minus(k.least), k.sign);
        due(k, 20, k.minus(k.least), half, 0, k.sign);
        due(k, 20, k.least, k.least, k.minus(k.least), k.minus(k.least));
    }

    /** Just below one and a half of the least number: rounded to the full row of bits it would be a tie. */
    private static void roundedOnce(Kind k) {
        CHECK.sentence("rounded once");
        long a = k.halves(3) - 3 - k.fraction * k.normal;
        long b = k.normal + 2;
        due(k, 2, a, b, k.least);
        due(k, 20, a, b, 0, k.least);
        due(k, 20, a, b, k.least, 2);
        long tie = k.two(-k.fraction - 1);
        due(k, 20, tie, k.one, k.one + 1, k.one + 2);
        due(k, 20, k.one + 1, k.one + 1, k.minus(k.one), k.two(1 - k.fraction));
        due(k, 20, k.one + 2, k.one + 2, k.minus(k.one), k.two(2 - k.fraction) + 1);
    }

    private static final int[] OF_ONE = {6, 7, 8, 9, 16, 18};
    private static final int[] OF_TWO = {0, 1, 2, 3, 4, 5, 10, 11};

    private static void nanAsResult(Kind k) {
        CHECK.sentence("NaN as a result is 0x7FC00000 (of DOUBLES 0x7FF8000000000000)");
        CHECK.due("the told NaN", k.nan, k.fraction == 23 ? 0x7FC00000L : 0x7FF8000000000000L);
        for (long nan : k.nans()) {
            for (int act : OF_ONE) {
                due(k, act, nan, 0, k.nan);
            }
            for (long number : k.numbers()) {
                for (int act : OF_TWO) {
                    due(k, act, nan, number, k.nan);
                    due(k, act, number, nan, k.nan);
                }
                due(k, 20, nan, number, number, k.nan);
                due(k, 20, number, nan, number, k.nan);
                due(k, 20, number, k.one, nan, k.nan);
            }
            for (long other : k.nans()) {
                for (int act : OF_TWO) {
                    due(k, act, nan, other, k.nan);
                }
                due(k, 20, nan, other, other, k.nan);
            }
            due(k, 14, nan, 1, k.nan);
            due(k, 14, nan, 31, k.nan);
            due(k, 14, nan, 63, k.nan);
            due(k, 14, nan, 32, k.nan);
            due(k, 15, nan, 0, k.nan);
            due(k, 15, nan, 1, k.nan);
            due(k, 15, nan, -5000, k.nan);
        }
    }

    private static void nanOfNumbers(Kind k) {
        CHECK.sentence("NaN as a result, of numbers");
        long infinite = k.infinite;
        long below = k.minus(infinite);
        due(k, 0, infinite, below, k.nan);
        due(k, 0, below, infinite, k.nan);
        due(k, 1, infinite, infinite, k.nan);
        due(k, 1, below, below, k.nan);
        due(k, 2, 0, infinite, k.nan);
        due(k, 2, below, 0, k.nan);
        due(k, 2, k.sign, infinite, k.nan);
        due(k, 2, k.sign, below, k.nan);
        due(k, 3, 0, 0, k.nan);
        due(k, 3, k.sign, 0, k.nan);
        due(k, 3, 0, k.sign, k.nan);
        due(k, 3, infinite, infinite, k.nan);
        due(k, 3, infinite, below, k.nan);
        due(k, 20, 0, infinite, k.one, k.nan);
        due(k, 20, below, k.sign, k.one, k.nan);
        due(k, 20, infinite, 0, k.nan, k.nan);
        due(k, 20, infinite, k.one, below, k.nan);
        due(k, 20, k.minus(k.one), infinite, infinite, k.nan);
    }

    private static void bitsAlone(Kind k) {
        CHECK.sentence("but for 12, 13, 17, which go by bits alone");
        for (long nan : k.nans()) {
            long plain = nan & ~k.sign;
            due(k, 12, nan, 0, plain);
            due(k, 13, nan, 0, nan ^ k.sign);
            due(k, 17, nan, k.one, plain);
            due(k, 17, nan, k.minus(k.one), plain | k.sign);
            due(k, 17, k.one, plain, k.one);
            due(k, 17, k.one, plain | k.sign, k.minus(k.one));
        }
    }
}
