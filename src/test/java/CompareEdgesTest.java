/** "2 TESTS", and promises 4 and 5: each edge that the document names, of FLOATS and of DOUBLES. */
public final class CompareEdgesTest {
    private static final Check CHECK = new Check("CompareEdgesTest");
    private static final int BELOW = 2, NOT_ABOVE = 3, ABOVE = 4, NOT_BELOW = 5, IS_NAN = 6,
        IS_INFINITE = 7;

    public static void main(String[] args) {
        noSuchTest();
        for (Kind k : Kind.both(CHECK)) {
            areOne(k);
            notFarther(k);
            nearWithNan(k);
            twoInfinite(k);
            byInfinite(k);
            oneInfinite(k);
            betweenRounded(k);
            ordered(k);
            orderedWithNan(k);
            zerosAreEqual(k);
            isNan(k);
            isInfinite(k);
            byDoesNotMatter(k);
        }
        CHECK.end();
    }

    private static void due(Kind k, int test, long a, long b, long by, int want) {
        String call = k.name + " TEST " + test + " of " + k.told(a) + ", " + k.told(b) + ", " + k.told(by);
        CHECK.due(call, k.test(test, a, b, by), want);
    }

    /** TEST 1 is always the other answer. */
    private static void near(Kind k, long a, long b, long by, int want) {
        due(k, 0, a, b, by, want);
        due(k, 1, a, b, by, 1 - want);
    }

    private static void noSuchTest() {
        int[] wrong = {-1, 8, 9, 30, 37, Integer.MIN_VALUE, Integer.MAX_VALUE};
        CHECK.sentence("A TEST of FLOATS: 1, 0. IllegalArgumentException: there is none such.");
        for (int test : wrong) {
            CHECK.due("test(" + test + ", ..) throws", thrownByTest(test), 1);
        }
        for (int test = 0; test <= 7; test++) {
            CHECK.due("test(" + test + ", ..) throws", thrownByTest(test), 0);
        }
        CHECK.sentence("A TEST of DOUBLES: 1, 0. IllegalArgumentException: there is none such.");
        for (int test : wrong) {
            CHECK.due("wideTest(" + test + ", ..) throws", thrownByWideTest(test), 1);
        }
        for (int test = 0; test <= 7; test++) {
            CHECK.due("wideTest(" + test + ", ..) throws", thrownByWideTest(test), 0);
        }
    }

    /** 0: nothing, 1: what is due, 2: another exception. */
    private static int thrownByTest(int test) {
        try {
            CHECK.any().test(test, 0x7FC00000, 0x3F800000, 0);
            return 0;
        } catch (RuntimeException e) {
            return e.getClass() == IllegalArgumentException.class ? 1 : 2;
        }
    }

    private static int thrownByWideTest(int test) {
        try {
            CHECK.any().wideTest(test, 0x7FF8000000000000L, 0x3FF0000000000000L, 0);
            return 0;
        } catch (RuntimeException e) {
            return e.getClass() == IllegalArgumentException.class ? 1 : 2;
        }
    }

    private static void areOne(Kind k) {
        CHECK.sentence("0 NEAR: a and b are one .. 1 not NEAR.");
        for (long a : k.numbers()) {
            near(k, a, a, 0, 1);
            near(k, a, a, k.sign, 1);
            near(k, a, a, k.minus(k.greatest), 1);
        }
        near(k, 0, k.sign, 0, 1);
        near(k, k.sign, 0, k.sign, 1);
    }

    private static void notFarther(Kind k) {
        CHECK.sentence("0 NEAR: or they are not farther apart than the size of BY");
        near(k, k.one, k.of(2), k.one, 1);
        near(k, k.of(2), k.one, k.one, 1);
        near(k, k.one, k.of(2), k.minus(k.one), 1);
        near(k, k.one, k.of(2), k.one - 1, 0);
        near(k, k.of(2), k.one, k.minus(k.one - 1), 0);
        near(k, k.minus(k.one), k.one, k.of(2), 1);
        near(k, k.minus(k.one), k.one, k.of(2) - 1, 0);
        near(k, 0, k.least, k.least, 1);
        near(k, k.sign, k.minus(k.least), k.minus(k.least), 1);
        near(k, 0, k.least, 0, 0);
        near(k, k.least, 0, k.sign, 0);
        near(k, k.minus(k.least), k.least, k.least, 0);
        near(k, k.minus(k.least), k.least, 2, 1);
        near(k, k.normal, k.small, k.least, 1);
        near(k, k.normal, k.small, 0, 0);
        near(k, 0, k.greatest, k.greatest, 1);
        near(k, 0, k.greatest, k.greatest - 1, 0);
        near(k, k.minus(k.greatest), 0, k.greatest, 1);
    }

    private static void nearWithNan(Kind k) {
        CHECK.sentence("0 NEAR: not, if one of the three is NaN");
        for (long nan : k.nans()) {
            for (long a : k.numbers()) {
                near(k, nan, a, k.infinite, 0);
                near(k, a, nan, k.infinite, 0);
                near(k, a, a, nan, 0);
                near(k, nan, nan, a, 0);
            }
            near(k, nan, nan, nan, 0);
        }
    }

    private static void twoInfinite(Kind k) {
        CHECK.sentence("0 NEAR: two infinite ones are NEAR, if they have the same sign, and only then");
        long below = k.minus(k.infinite);
        for (long by : k.numbers()) {
            near(k, k.infinite, k.infinite, by, 1);
            near(k, below, below, by, 1);
            near(k, k.infinite, below, by, 0);
            near(k, below, k.infinite, by, 0);
        }
    }

    private static void byInfinite(Kind k) {
        CHECK.sentence("0 NEAR: BY infinite: else always");
        for (long a : k.numbers()) {
            for (long b : k.numbers()) {
                boolean twoInfinite = k.minus(a) == b && (a == k.infinite || b == k.infinite);
                near(k, a, b, k.infinite, twoInfinite ? 0 : 1);
                near(k, a, b, k.minus(k.infinite), twoInfinite ? 0 : 1);
            }
        }
    }

    private static void oneInfinite(Kind k) {
        CHECK.sentence("0 NEAR: one infinite one is farther apart than any BY that is not infinite");
        for (long a : k.numbers()) {
            if ((a & k.sign - 1) != k.infinite) {
                near(k, a, k.infinite, k.greatest, 0);
                near(k, k.infinite, a, k.minus(k.greatest), 0);
                near(k, k.minus(k.infinite), a, k.greatest, 0);
                near(k, a, k.minus(k.infinite), 0, 0);
            }
        }
    }

    private static void betweenRounded(Kind k) {
        CHECK.sentence("(What lies between is a - b, rounded, its size.)");
        long tie = k.two(-k.fraction - 1);
        near(k, k.one, k.minus(tie), k.one, 1);
        near(k, k.minus(k.one), tie, k.one, 1);
        near(k, k.one, k.minus(tie + 1), k.one, 0);
        near(k, k.one, k.minus(tie + 1), k.one + 1, 1);
        near(k, k.one + 1, k.minus(tie), k.one + 1, 0);
        near(k, k.one + 1, k.minus(tie - 1), k.one + 1, 1);
        near(k, k.greatest, k.minus(k.least), k.greatest, 1);
        near(k, k.greatest, k.minus(k.two(k.bias - k.fraction - 1)), k.greatest, 0);
        near(k, k.greatest, k.minus(k.greatest), k.greatest, 0);
        near(k, k.minus(k.greatest), k.greatest, k.infinite, 1);
        near(k, k.two(k.bias), k.minus(k.two(k.bias)), k.greatest, 0);
    }

    /** Below b: -1, equal: 0, above: 1. */
    private static void order(Kind k, long a, long b, int order) {
        due(k, BELOW, a, b, 0, order < 0 ? 1 : 0);
        due(k, NOT_ABOVE, a, b, 0, order <= 0 ? 1 : 0);
        due(k, ABOVE, a, b, 0, order > 0 ? 1 : 0);
        due(k, NOT_BELOW, a, b, 0, order >= 0 ? 1 : 0);
    }

    private static void ordered(Kind k) {
        CHECK.sentence("2 a is below b. 3 below it, or equal. 4 above. 5 above, or equal");
        long[] rising = {k.minus(k.infinite), k.minus(k.greatest), k.minus(k.one + 1), k.minus(k.one),
            k.minus(k.normal), k.minus(k.small), k.minus(k.least), 0, k.least, k.small, k.normal, k.one - 1,
            k.one, k.one + 1, k.greatest - 1, k.greatest, k.infinite};
        for (int i = 0; i < rising.length; i++) {
            for (int j = 0; j < rising.length; j++) {
                order(k, rising[i], rising[j], Integer.compare(i, j));
            }
        }
    }

    private static void orderedWithNan(Kind k) {
        CHECK.sentence("(2 to 5: not with NaN");
        for (int test = BELOW; test <= NOT_BELOW; test++) {
            for (long nan : k.nans()) {
                for (long a : k.numbers()) {
                    due(k, test, nan, a, 0, 0);
                    due(k, test, a, nan, 0, 0);
                }
                for (long other : k.nans()) {
                    due(k, test, nan, other, 0, 0);
                }
            }
        }
    }

    private static void zerosAreEqual(Kind k) {
        CHECK.sentence("(2 to 5: -0 and 0 are equal)");
        order(k, k.sign, 0, 0);
        order(k, 0, k.sign, 0);
        order(k, k.sign, k.sign, 0);
        order(k, k.sign, k.least, -1);
        order(k, k.minus(k.least), k.sign, -1);
    }

    private static void isNan(Kind k) {
        CHECK.sentence("6 a is NaN.");
        for (long nan : k.nans()) {
            due(k, IS_NAN, nan, 0, 0, 1);
            for (long a : k.numbers()) {
                due(k, IS_NAN, a, nan, nan, 0);
            }
        }
    }

    private static void isInfinite(Kind k) {
        CHECK.sentence("7 a is infinite.");
        for (long a : k.numbers()) {
            due(k, IS_INFINITE, a, k.infinite, k.infinite, (a & k.sign - 1) == k.infinite ? 1 : 0);
        }
        for (long nan : k.nans()) {
            due(k, IS_INFINITE, nan, k.infinite, k.infinite, 0);
        }
    }

    private static void byDoesNotMatter(Kind k) {
        CHECK.sentence("2 TESTS, of a and b, with BY (2 to 7 do not name BY)");
        long[] bys = {k.nan, k.infinite, k.greatest, k.minus(k.nan)};
        for (long by : bys) {
            due(k, BELOW, k.one, k.of(2), by, 1);
            due(k, NOT_ABOVE, k.of(2), k.one, by, 0);
            due(k, ABOVE, k.of(2), k.one, by, 1);
            due(k, NOT_BELOW, k.one, k.of(2), by, 0);
            due(k, IS_NAN, k.one, k.one, by, 0);
            due(k, IS_INFINITE, k.infinite, k.one, by, 1);
        }
    }
}
