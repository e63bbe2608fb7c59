/** Promises 4 and 5: test and wideTest. */
public final class CompareTest {
    private static final Check CHECK = new Check("CompareTest");

    public static void main(String[] args) {
        refusals();
        writtenAnswers();
        for (int a : ActTest.EDGES) {
            for (int b : ActTest.EDGES) {
                for (int by : ActTest.EDGES) {
                    floats(a, b, by);
                }
            }
        }
        for (long a : WideTest.EDGES) {
            for (long b : WideTest.EDGES) {
                for (long by : WideTest.EDGES) {
                    doubles(a, b, by);
                }
            }
        }
        for (int i = 0; i < 50000; i++) {
            atTheEdgeOfBy();
        }
        CHECK.end();
    }

    /** BY is what lies between, or the float next to that. */
    private static void atTheEdgeOfBy() {
        int a = (int) CHECK.number();
        int b = CHECK.below(2) == 0 ? (int) CHECK.number() : a + CHECK.below(0x2000000);
        float apart = Float.intBitsToFloat(a) - Float.intBitsToFloat(b);
        floats(a, b, Float.floatToRawIntBits(apart) + CHECK.below(3) - 1);
        long c = CHECK.number();
        long d = CHECK.below(2) == 0 ? CHECK.number() : c + (CHECK.number() >>> 8);
        double wideApart = Double.longBitsToDouble(c) - Double.longBitsToDouble(d);
        doubles(c, d, Double.doubleToRawLongBits(wideApart) + CHECK.below(3) - 1);
    }

    private static void floats(int a, int b, int by) {
        boolean[] wants = wants(a, b, by);
        for (int test = 0; test < 8; test++) {
            CHECK.due("test(" + test + ", " + a + ", " + b + ", " + by + ")",
                CHECK.any().test(test, a, b, by), wants[test] ? 1 : 0);
        }
    }

    private static void doubles(long a, long b, long by) {
        boolean[] wants = wideWants(a, b, by);
        for (int test = 0; test < 8; test++) {
            CHECK.due("wideTest(" + test + ", " + a + ", " + b + ", " + by + ")",
                CHECK.any().wideTest(test, a, b, by), wants[test] ? 1 : 0);
        }
    }

    /** Which of the TESTS 0 to 7 hold. */
    static boolean[] wants(int a, int b, int by) {
        float x = Float.intBitsToFloat(a);
        float y = Float.intBitsToFloat(b);
        float z = Float.intBitsToFloat(by);
        boolean near = x == y || Math.abs(x - y) <= Math.abs(z);
        if (Float.isNaN(x) || Float.isNaN(y) || Float.isNaN(z)) {
            near = false;
        } else if (Float.isInfinite(x) && Float.isInfinite(y)) {
            near = a == b;
        }
        return new boolean[] {near, !near, x < y, x <= y, x > y, x >= y, x != x, Float.isInfinite(x)};
    }

    static boolean[] wideWants(long a, long b, long by) {
        double x = Double.longBitsToDouble(a);
        double y = Double.longBitsToDouble(b);
        double z = Double.longBitsToDouble(by);
        boolean near = x == y || Math.abs(x - y) <= Math.abs(z);
        if (Double.isNaN(x) || Double.isNaN(y) || Double.isNaN(z)) {
            near = false;
        } else if (Double.isInfinite(x) && Double.isInfinite(y)) {
            near = a == b;
        }
        return new boolean[] {near, !near, x < y, x <= y, x > y, x >= y, x != x, Double.isInfinite(x)};
    }

    private static void writtenAnswers() {
        int one = 0x3F800000;
        int two = 0x40000000;
        int infinite = 0x7F800000;
        int nan = 0x7FC00000;
        CHECK.due("1 NEAR 2 by -1", CHECK.any().test(0, one, two, 0xBF800000), 1);
        CHECK.due("1 NEAR 2 by less than 1", CHECK.any().test(0, one, two, 0x3F7FFFFF), 0);
        CHECK.due("1 NEAR 1 by NaN", CHECK.any().test(0, one, one, nan), 0);
        CHECK.due("infinite NEAR infinite by NaN", CHECK.any().test(0, infinite, infinite, nan), 0);
        CHECK.due("infinite NEAR 1 by 1", CHECK.any().test(0, infinite, one, one), 0);
        CHECK.due("1 NEAR infinite by infinite", CHECK.any().test(0, one, infinite, infinite), 1);
        CHECK.due("greatest NEAR least by greatest",
            CHECK.any().test(0, 0x7F7FFFFF, 0xFF7FFFFF, 0x7F7FFFFF), 0);
        CHECK.due("greatest NEAR least by infinite",
            CHECK.any().test(0, 0x7F7FFFFF, 0xFF7FFFFF, 0xFF800000), 1);
        CHECK.due("what lies between is rounded", CHECK.any().test(0, 0x4B800000, 0xB3800000, 0x4B800000), 1);
        CHECK.due("NaN is not below, or equal to, itself", CHECK.any().test(3, nan, nan, 0), 0);
        CHECK.due("NaN BY does not matter to 2", CHECK.any().test(2, one, two, nan), 1);
        CHECK.due("wide -0 equal 0", CHECK.any().wideTest(5, Long.MIN_VALUE, 0, 0), 1);
        CHECK.due("wide -0 above 0", CHECK.any().wideTest(4, 0, Long.MIN_VALUE, 0), 0);
    }

    private static void refusals() {
        int[] wrong = {-1, 8, 9, 30, 37, Integer.MIN_VALUE, Integer.MAX_VALUE};
        for (int test : wrong) {
            int thrown = 0;
            try {
                CHECK.any().test(test, 1, 2, 3);
            } catch (IllegalArgumentException e) {
                thrown = e.getClass() == IllegalArgumentException.class ? 1 : 2;
            }
            CHECK.due("test(" + test + ", ..) throws", thrown, 1);
            thrown = 0;
            try {
                CHECK.any().wideTest(test, 1, 2, 3);
            } catch (IllegalArgumentException e) {
                thrown = e.getClass() == IllegalArgumentException.class ? 1 : 2;
            }
            CHECK.due("wideTest(" + test + ", ..) throws", thrown, 1);
        }
    }
}
