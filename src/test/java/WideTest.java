/** Promise 3: wide, against the machine's own doubles and against written answers. */
public final class WideTest {
    private static final Check CHECK = new Check("WideTest");
    private static final long SIGN = Long.MIN_VALUE;
    private static final long NAN = 0x7FF8000000000000L;

    static final long[] EDGES = {
        0, SIGN, 1, SIGN | 1, 2, 3, 0x000FFFFFFFFFFFFFL, SIGN | 0x000FFFFFFFFFFFFFL,
        0x0010000000000000L, SIGN | 0x0010000000000000L, 0x0010000000000001L,
        0x7FEFFFFFFFFFFFFFL, 0xFFEFFFFFFFFFFFFFL, 0x7FEFFFFFFFFFFFFEL, 0x7FE0000000000000L,
        0x7FF0000000000000L, 0xFFF0000000000000L, NAN, SIGN | NAN,
        0x7FF0000000000001L, 0xFFF0000000000001L, Long.MAX_VALUE, -1L,
        0x3FF0000000000000L, 0xBFF0000000000000L, 0x3FF0000000000001L, 0xBFF0000000000001L,
        0x3FEFFFFFFFFFFFFFL, 0xBFEFFFFFFFFFFFFFL, 0x3FE0000000000000L, 0xBFE0000000000000L,
        0x3FE0000000000001L, 0xBFE0000000000001L, 0x3FDFFFFFFFFFFFFFL, 0x3FF8000000000000L,
        0xBFF8000000000000L, 0x4004000000000000L, 0x4000000000000000L, 0xC008000000000000L,
        0x4014000000000000L, 0x3FB999999999999AL, 0x3FD5555555555555L, 0x400921FB54442D18L,
        0x432FFFFFFFFFFFFFL, 0x4330000000000000L, 0x4330000000000001L, 0x4340000000000000L,
        0x41DFFFFFFFC00000L, 0x41DFFFFFFFE00000L, 0x41E0000000000000L, 0xC1E0000000000000L,
        0xC1E0000000100000L, 0xC1E0000000200000L, 0x41F0000000000000L,
        31, 32, 33, 63, 64, -31, -32, -1074, 1023, 4294967295L, 4294967296L, -2147483648L, 2147483648L
    };

    public static void main(String[] args) {
        refusals();
        writtenAnswers();
        for (long a : EDGES) {
            for (long b : EDGES) {
                allActs(a, b, EDGES[CHECK.below(EDGES.length)]);
                for (long c : EDGES) {
                    one(20, a, b, c);
                }
            }
        }
        for (int i = 0; i < 40000; i++) {
            long a = some();
            allActs(a, near(a), some());
            allActs(a, some(), near(a));
        }
        for (int i = 0; i < 100000; i++) {
            cancelling();
        }
        for (int i = -2300; i <= 2300; i++) {
            one(15, some(), i, 0);
            one(15, 0x3FF0000000000001L, i, 0);
            one(15, 0x3FF8000000000000L, i, 0);
            one(14, 0x3FF0000000000000L + CHECK.below(1 << 30) * (1L << 21), i, 0);
        }
        CHECK.end();
    }

    private static long some() {
        long bits = CHECK.number();
        switch (CHECK.below(6)) {
            case 0: return bits;
            case 1: return bits & 0x800FFFFFFFFFFFFFL;
            case 2: return bits & 0x801FFFFFFFFFFFFFL | 0x3FE0000000000000L;
            case 3: return bits & 0x80FFFFFFFFFFFFFFL | 0x4000000000000000L;
            case 4: return bits & 0x803FFFFFFFFFFFFFL | 0x41C0000000000000L;
            default: return bits & 0xFFFFFFFF00000000L;
        }
    }

    private static long near(long a) {
        long far = (CHECK.number() >>> 7) - (1L << 56);
        return a + far ^ CHECK.number() & SIGN;
    }

    private static void cancelling() {
        double a = Double.longBitsToDouble(some());
        double b = Double.longBitsToDouble(some());
        long c = Double.doubleToRawLongBits(-(a * b)) + CHECK.below(5) - 2;
        one(20, Double.doubleToRawLongBits(a), Double.doubleToRawLongBits(b), c);
    }

    private static void allActs(long a, long b, long c) {
        for (int act = 0; act < 24; act++) {
            one(act, a, b, c);
        }
    }

    private static void one(int act, long a, long b, long c) {
        String call = "wide(" + act + ", 0x" + Long.toHexString(a) + ", 0x" + Long.toHexString(b)
            + ", 0x" + Long.toHexString(c) + ")";
        CHECK.due(call, CHECK.any().wide(act, a, b, c), want(act, a, b, c));
    }

    static long want(int act, long a, long b, long c) {
        switch (act) {
            case 12: return a & ~SIGN;
            case 13: return a ^ SIGN;
            case 17: return a & ~SIGN | b & SIGN;
            case 19: return (a >>> 52 & 2047) - 1023;
            case 22: return toInt(a, Double.longBitsToDouble(a));
            case 23: return toInt(a, Math.rint(Double.longBitsToDouble(a)));
            default: return Double.doubleToLongBits(result(act, a, b, Double.longBitsToDouble(a),
                Double.longBitsToDouble(b), Double.longBitsToDouble(c)));
        }
    }

    private static long toInt(long bits, double a) {
        if (Double.isNaN(a)) {
            return bits < 0 ? Integer.MIN_VALUE : Integer.MAX_VALUE;
        }
        return (int) a;
    }

    private static double result(int act, long aBits, long bBits, double a, double b, double c) {
        switch (act) {
            case 0: return a + b;
            case 1: return a - b;
            case 2: return a * b;
            case 3: return a / b;
            case 4: return a % b;
            case 5: return (a - a % b) / b;
            case 6: return Math.sqrt(a);
            case 7: return Math.ceil(a);
            case 8: return Math.floor(a);
            case 9: return Math.rint(a);
            case 10: return Math.min(a, b);
            case 11: return Math.max(a, b);
            case 14: return power(a, (int) (bBits << 58 >> 58));
            case 15: return Math.scalb(a, (int) Math.max(-100000L, Math.min(100000L, bBits)));
            case 16: return Math.nextUp(a);
            case 18: return Math.ulp(a);
            case 20: return Math.fma(a, b, c);
            case 21: return (int) aBits;
            default: throw new IllegalStateException();
        }
    }

    private static double power(double a, int n) {
        double result = 1;
        for (int i = 0; i < Math.abs(n); i++) {
            result *= a;
        }
        return n < 0 ? 1 / result : result;
    }

    private static void refusals() {
        int[] wrong = {-1, 24, 25, 30, 40, 255, 256, Integer.MIN_VALUE, Integer.MAX_VALUE};
        for (int act : wrong) {
            int thrown = 0;
            try {
                CHECK.any().wide(act, 1, 2, 3);
            } catch (IllegalArgumentException e) {
                thrown = e.getClass() == IllegalArgumentException.class ? 1 : 2;
            }
            CHECK.due("wide(" + act + ", ..) throws", thrown, 1);
        }
    }

    private static void writtenAnswers() {
        written(3, 0x3FF0000000000000L, 0x4008000000000000L, 0, 0x3FD5555555555555L);
        written(6, 0x4000000000000000L, 0, 0, 0x3FF6A09E667F3BCDL);
        written(14, 0x7FF0000000000001L, 64, 0, 0x3FF0000000000000L);
        written(14, 0x4000000000000000L, 0x100000003FL, 0, 0x3FE0000000000000L);
        written(15, 0x3FF0000000000000L, 4294967295L, 0, 0x7FF0000000000000L);
        written(15, 0x3FF0000000000000L, Long.MIN_VALUE, 0, 0);
        written(15, SIGN, Long.MAX_VALUE, 0, SIGN);
        written(15, 1, 2097, 0, 0x7FE0000000000000L);
        written(15, 1, 2098, 0, 0x7FF0000000000000L);
        written(16, SIGN | 1, 0, 0, SIGN);
        written(16, SIGN, 0, 0, 1);
        written(18, 0x7FEFFFFFFFFFFFFFL, 0, 0, 0x7CA0000000000000L);
        written(19, 1, 0, 0, -1023);
        written(19, -1, 0, 0, 1024);
        written(21, 0x7FFFFFFF80000000L, 0, 0, 0xC1E0000000000000L);
        written(21, 0x100000002L, 0, 0, 0x4000000000000000L);
        written(22, 0xC1E0000000200000L, 0, 0, -2147483648L);
        written(22, SIGN | NAN, 0, 0, -2147483648L);
        written(23, SIGN | NAN, 0, 0, -2147483648L);
        written(23, NAN, 0, 0, 2147483647L);
        written(23, 0x41DFFFFFFFE00000L, 0, 0, 2147483647L);
        written(23, 0xBFF8000000000000L, 0, 0, -2);
    }

    private static void written(int act, long a, long b, long c, long want) {
        String call = "wide(" + act + ", " + a + ", " + b + ", " + c + ")";
        CHECK.due(call, CHECK.any().wide(act, a, b, c), want);
    }
}
