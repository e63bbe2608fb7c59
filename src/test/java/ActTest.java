/** Promise 2: act, against the machine's own floats and against written answers. */
public final class ActTest {
    private static final Check CHECK = new Check("ActTest");
    private static final int NAN = 0x7FC00000;

    static final int[] EDGES = {
        0, 0x80000000, 1, 0x80000001, 2, 3, 0x007FFFFF, 0x807FFFFF, 0x00800000, 0x80800000, 0x00800001,
        0x7F7FFFFF, 0xFF7FFFFF, 0x7F7FFFFE, 0x7F000000, 0x7F800000, 0xFF800000,
        0x7FC00000, 0xFFC00000, 0x7F800001, 0xFF800001, 0x7FFFFFFF, 0xFFFFFFFF,
        0x3F800000, 0xBF800000, 0x3F800001, 0xBF800001, 0x3F7FFFFF, 0xBF7FFFFF,
        0x3F000000, 0xBF000000, 0x3F000001, 0xBF000001, 0x3EFFFFFF, 0xBEFFFFFF,
        0x3FC00000, 0xBFC00000, 0x40200000, 0xC0200000, 0x40000000, 0xC0000000, 0x40400000, 0xC0400000,
        0x40A00000, 0x41200000, 0x3DCCCCCD, 0x3EAAAAAB, 0x40490FDB, 0xC0490FDB,
        0x4A800001, 0x4AFFFFFF, 0x4B000000, 0x4B000001, 0x4B7FFFFF, 0x4B800000, 0x4B800001, 0xCB000001,
        0x4EFFFFFF, 0x4F000000, 0xCEFFFFFF, 0xCF000000, 0xCF000001, 0x4F800000, 0x5F000000,
        31, 32, 33, 63, 64, -31, -32, -149, 127, 128, 149, 277, 16777217, 16777219, 33554433, -16777217
    };

    public static void main(String[] args) {
        refusals();
        writtenAnswers();
        for (int a : EDGES) {
            for (int b : EDGES) {
                allActs(a, b, EDGES[CHECK.below(EDGES.length)]);
            }
        }
        for (int a : EDGES) {
            for (int b : EDGES) {
                for (int c : EDGES) {
                    one(20, a, b, c);
                }
            }
        }
        for (int i = 0; i < 60000; i++) {
            int a = some();
            allActs(a, near(a), some());
            allActs(a, some(), near(a));
        }
        for (int i = 0; i < 100000; i++) {
            cancelling();
        }
        for (int i = -400; i <= 400; i++) {
            one(15, some(), i, 0);
            one(15, 0x3F800001, i, 0);
            one(15, 0x3FC00000, i, 0);
            one(14, 0x3F800000 + CHECK.below(0x400000), i, 0);
            one(14, 0xBF7FFFF0 + CHECK.below(32), i, 0);
        }
        CHECK.end();
    }

    private static int some() {
        int bits = (int) CHECK.number();
        switch (CHECK.below(5)) {
            case 0: return bits;
            case 1: return bits & 0x807FFFFF;
            case 2: return bits & 0x80FFFFFF | 0x3F000000;
            case 3: return bits & 0x87FFFFFF | 0x40000000;
            default: return bits & 0xFFFF8000;
        }
    }

    /** A number of about the size of a, of either sign. */
    private static int near(int a) {
        return a + CHECK.below(0x2000000) - 0x1000000 ^ (int) CHECK.number() & 0x80000000;
    }

    private static void cancelling() {
        float a = Float.intBitsToFloat(some());
        float b = Float.intBitsToFloat(some());
        int c = Float.floatToRawIntBits(-(a * b)) + CHECK.below(5) - 2;
        one(20, Float.floatToRawIntBits(a), Float.floatToRawIntBits(b), c);
    }

    private static void allActs(int a, int b, int c) {
        for (int act = 0; act < 24; act++) {
            one(act, a, b, c);
        }
    }

    private static void one(int act, int a, int b, int c) {
        String call = "act(" + act + ", 0x" + Integer.toHexString(a) + ", 0x" + Integer.toHexString(b)
            + ", 0x" + Integer.toHexString(c) + ")";
        CHECK.due(call, CHECK.any().act(act, a, b, c), want(act, a, b, c));
    }

    static int want(int act, int a, int b, int c) {
        switch (act) {
            case 12: return a & 0x7FFFFFFF;
            case 13: return a ^ 0x80000000;
            case 17: return a & 0x7FFFFFFF | b & 0x80000000;
            case 19: return (a >>> 23 & 255) - 127;
            case 22: return toInt(a, Float.intBitsToFloat(a));
            case 23: return toInt(a, (float) Math.rint(Float.intBitsToFloat(a)));
            default: return Float.floatToIntBits(result(act, a, b, Float.intBitsToFloat(a),
                Float.intBitsToFloat(b), Float.intBitsToFloat(c)));
        }
    }

    private static int toInt(int bits, float a) {
        if (Float.isNaN(a)) {
            return bits < 0 ? Integer.MIN_VALUE : Integer.MAX_VALUE;
        }
        return (int) a;
    }

    private static float result(int act, int aBits, int bBits, float a, float b, float c) {
        switch (act) {
            case 0: return a + b;
            case 1: return a - b;
            case 2: return a * b;
            case 3: return a / b;
            case 4: return a % b;
            case 5: return (a - a % b) / b;
            case 6: return (float) Math.sqrt(a);
            case 7: return (float) Math.ceil(a);
            case 8: return (float) Math.floor(a);
            case 9: return (float) Math.rint(a);
            case 10: return Math.min(a, b);
            case 11: return Math.max(a, b);
            case 14: return power(a, bBits << 26 >> 26);
            case 15: return Math.scalb(a, bBits);
            case 16: return Math.nextUp(a);
            case 18: return Math.ulp(a);
            case 20: return Math.fma(a, b, c);
            case 21: return (float) aBits;
            default: throw new IllegalStateException();
        }
    }

    private static float power(float a, int n) {
        float result = 1;
        for (int i = 0; i < Math.abs(n); i++) {
            result *= a;
        }
        return n < 0 ? 1 / result : result;
    }

    private static void refusals() {
        int[] wrong = {-1, 24, 25, 30, 40, 255, 256, Integer.MIN_VALUE, Integer.MAX_VALUE};
        for (int act : wrong) {
            int thrown = 0;
            try {
                CHECK.any().act(act, 1, 2, 3);
            } catch (IllegalArgumentException e) {
                thrown = e.getClass() == IllegalArgumentException.class ? 1 : 2;
            }
            CHECK.due("act(" + act + ", ..) throws", thrown, 1);
        }
    }

    private static void writtenAnswers() {
        written(4, 0xC0A00000, 0x40400000, 0, 0xC0000000);
        written(4, 0x7F800000, 0x3F800000, 0, NAN);
        written(4, 0x3F800000, 0x80000000, 0, NAN);
        written(4, 0xBF800000, 0xFF800000, 0, 0xBF800000);
        written(4, 0xC0C00000, 0x40400000, 0, 0x80000000);
        written(4, 0x7F7FFFFF, 0x00000003, 0, 0);
        written(5, 0xBF000000, 0x3F800000, 0, 0);
        written(5, 0xBF000000, 0xBF800000, 0, 0x80000000);
        written(5, 0x7F7FFFFF, 1, 0, 0x7F800000);
        written(6, 0x40800000, 0, 0, 0x40000000);
        written(6, 0x40000000, 0, 0, 0x3FB504F3);
        written(6, 0x80000001, 0, 0, NAN);
        written(7, 0xBF7FFFFF, 0, 0, 0x80000000);
        written(7, 0xFF812345, 0, 0, NAN);
        written(9, 0x40600000, 0, 0, 0x40800000);
        written(9, 0xBF000000, 0, 0, 0x80000000);
        written(10, 0x80000000, 0, 0, 0x80000000);
        written(10, 0xFFFFFFFF, 0xFF800000, 0, NAN);
        written(11, 0, 0x80000000, 0, 0);
        written(12, 0xFF800001, 0, 0, 0x7F800001);
        written(13, 0x7F800001, 0, 0, 0xFF800001);
        written(14, 0x7F800001, 0, 0, 0x3F800000);
        written(14, 0x7F800001, 64, 0, 0x3F800000);
        written(14, 0x40400000, -2, 0, 0x3DE38E39);
        written(14, 0xC0000000, 3, 0, 0xC1000000);
        written(14, 0xC0000000, 0x7FFFFFC3, 0, 0xC1000000);
        written(15, 0, Integer.MAX_VALUE, 0, 0);
        written(15, 0x80000000, 5, 0, 0x80000000);
        written(15, 0xBF800000, Integer.MIN_VALUE, 0, 0x80000000);
        written(15, 1, 276, 0, 0x7F000000);
        written(15, 1, 277, 0, 0x7F800000);
        written(15, 0x3F800000, -150, 0, 0);
        written(15, 0x3F800001, -150, 0, 1);
        written(15, 0xFF800000, -500, 0, 0xFF800000);
        written(16, 0x80000001, 0, 0, 0x80000000);
        written(16, 0xFF812345, 0, 0, NAN);
        written(16, 0x7F800000, 0, 0, 0x7F800000);
        written(17, 0xFF800001, 0, 0, 0x7F800001);
        written(18, 0x80800000, 0, 0, 1);
        written(18, 0xFFFFFFFF, 0, 0, NAN);
        written(19, 0x807FFFFF, 0, 0, -127);
        written(19, 0xFFFFFFFF, 0, 0, 128);
        written(20, 0, 0x7F800000, 0, NAN);
        written(20, 0x80000001, 0x00000001, 0, 0x80000000);
        written(20, 0x7F7FFFFF, 0x40000000, 0xFF7FFFFF, 0x7F7FFFFF);
        written(21, Integer.MIN_VALUE, 0, 0, 0xCF000000);
        written(21, -1, 0, 0, 0xBF800000);
        written(22, 0xBFFFFFFF, 0, 0, -1);
        written(22, 0xFF800001, 0, 0, Integer.MIN_VALUE);
        written(23, 0xFFC00000, 0, 0, Integer.MIN_VALUE);
        written(23, 0x7FC00000, 0, 0, Integer.MAX_VALUE);
        written(23, 0xFF800000, 0, 0, Integer.MIN_VALUE);
        written(23, 0x40200000, 0, 0, 2);
        written(23, 0xBFC00000, 0, 0, -2);
    }

    private static void written(int act, int a, int b, int c, int want) {
        String call = "act(" + act + ", " + a + ", " + b + ", " + c + ")";
        CHECK.due(call, CHECK.any().act(act, a, b, c), want);
    }
}
