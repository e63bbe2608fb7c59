/** Promises 6 to 9: widen, narrow, half and join. */
public final class ConvertTest {
    private static final Check CHECK = new Check("ConvertTest");

    public static void main(String[] args) {
        for (int a : ActTest.EDGES) {
            widened(a);
            aroundTheTie(a);
        }
        for (long a : WideTest.EDGES) {
            narrowed(a);
            halves(a);
        }
        for (int i = 0; i < 200000; i++) {
            int a = (int) CHECK.number();
            widened(a);
            aroundTheTie(a);
            aroundTheTie(a & 0x807FFFFF);
            narrowed(CHECK.number());
            halves(CHECK.number());
        }
        CHECK.due("widen of a NaN below 0", CHECK.any().widen(0xFF812345), 0x7FF8000000000000L);
        CHECK.due("narrow of a NaN below 0", CHECK.any().narrow(0xFFF0000000000001L), 0x7FC00000);
        CHECK.due("narrow too large", CHECK.any().narrow(0xC7F0000000000000L), 0xFF800000);
        CHECK.due("narrow to the least", CHECK.any().narrow(0x3690000000000001L), 1);
        CHECK.due("narrow to 0", CHECK.any().narrow(0xB690000000000000L), 0x80000000);
        CHECK.due("half, upper", CHECK.any().half(0x80000001FFFFFFFEL, true), 0x80000001);
        CHECK.due("half, lower", CHECK.any().half(0x80000001FFFFFFFEL, false), 0xFFFFFFFE);
        CHECK.due("join", CHECK.any().join(0x7FF00000, 0xFFFFFFFF), 0x7FF00000FFFFFFFFL);
        CHECK.due("join of 0", CHECK.any().join(0, Integer.MIN_VALUE), 0x80000000L);
        CHECK.end();
    }

    private static void widened(int a) {
        long want = Double.doubleToLongBits((double) Float.intBitsToFloat(a));
        CHECK.due("widen(" + a + ")", CHECK.any().widen(a), want);
    }

    private static void narrowed(long a) {
        int want = Float.floatToIntBits((float) Double.longBitsToDouble(a));
        CHECK.due("narrow(" + a + ")", CHECK.any().narrow(a), want);
    }

    /** Doubles midway between two floats, and those beside them. */
    private static void aroundTheTie(int a) {
        double low = Float.intBitsToFloat(a);
        double high = Float.intBitsToFloat(a + 1);
        long middle = Double.doubleToRawLongBits(low / 2 + high / 2);
        narrowed(Double.doubleToRawLongBits(low));
        narrowed(middle - 1);
        narrowed(middle);
        narrowed(middle + 1);
    }

    private static void halves(long a) {
        int high = CHECK.any().half(a, true);
        int low = CHECK.any().half(a, false);
        CHECK.due("half(" + a + ", true)", high, (int) (a >> 32));
        CHECK.due("half(" + a + ", false)", low, (int) a);
        CHECK.due("join of the halves of " + a, CHECK.any().join(high, low), a);
    }
}
