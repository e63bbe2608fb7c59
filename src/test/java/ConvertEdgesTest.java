/** Promises 6 to 9: each edge of widen, narrow, half and join. */
public final class ConvertEdgesTest {
    private static final Check CHECK = new Check("ConvertEdgesTest");
    private static final Kind F = Kind.floats(CHECK);
    private static final Kind D = Kind.doubles(CHECK);

    public static void main(String[] args) {
        widened();
        widenedNan();
        narrowed();
        narrowedTooLarge();
        narrowedTooSmall();
        narrowedNan();
        halves();
        joined();
        CHECK.end();
    }

    private static void widen(long a, long want) {
        CHECK.due("widen(" + F.told(a) + ")", CHECK.any().widen((int) a), want);
        CHECK.due("widen(-" + F.told(a) + ")", CHECK.any().widen((int) F.minus(a)), D.minus(want));
    }

    private static void narrow(long a, long want) {
        CHECK.due("narrow(" + D.told(a) + ")", CHECK.any().narrow(a), (int) want);
        CHECK.due("narrow(-" + D.told(a) + ")", CHECK.any().narrow(D.minus(a)), (int) F.minus(want));
    }

    private static void widened() {
        CHECK.sentence("The DOUBLE of a FLOAT.");
        widen(0, 0);
        widen(F.least, D.two(-149));
        widen(2, D.two(-148));
        widen(3, D.two(-148) + (D.normal >> 1));
        widen(F.small, D.two(-126) - (1L << 30));
        widen(F.normal, D.two(-126));
        widen(F.one - 1, D.one - (1L << 29));
        widen(F.one, D.one);
        widen(F.one + 1, D.one + (1L << 29));
        widen(F.greatest, D.two(128) - (1L << 29));
        widen(F.infinite, D.infinite);
    }

    private static void widenedNan() {
        CHECK.sentence("The DOUBLE of a FLOAT. (NaN as a result is .. of DOUBLES 0x7FF8000000000000)");
        for (long nan : F.nans()) {
            CHECK.due("widen(" + F.told(nan) + ")", CHECK.any().widen((int) nan), D.nan);
        }
    }

    private static void narrowed() {
        CHECK.sentence("The FLOAT nearest to a DOUBLE. (ties to even)");
        long unit = 1L << 29;
        long tie = unit / 2;
        narrow(0, 0);
        narrow(D.one, F.one);
        narrow(D.one + tie - 1, F.one);
        narrow(D.one + tie, F.one);
        narrow(D.one + tie + 1, F.one + 1);
        narrow(D.one + unit, F.one + 1);
        narrow(D.one + unit + tie - 1, F.one + 1);
        narrow(D.one + unit + tie, F.one + 2);
        narrow(D.one + unit + tie + 1, F.one + 2);
        narrow(D.one - 1, F.one);
        narrow(D.of(2) - 1, F.of(2));
        narrow(D.two(-126), F.normal);
        narrow(D.two(-126) - 1, F.normal);
    }

    private static void narrowedTooLarge() {
        CHECK.sentence("The FLOAT nearest to a DOUBLE. (too large)");
        long greatest = D.two(128) - (1L << 29);
        narrow(greatest, F.greatest);
        narrow(greatest + (1L << 28) - 1, F.greatest);
        narrow(greatest + (1L << 28), F.infinite);
        narrow(D.two(128) - 1, F.infinite);
        narrow(D.two(128), F.infinite);
        narrow(D.greatest, F.infinite);
        narrow(D.infinite, F.infinite);
    }

    private static void narrowedTooSmall() {
        CHECK.sentence("The FLOAT nearest to a DOUBLE. (too small)");
        long leastOfFloats = D.two(-149);
        narrow(leastOfFloats, F.least);
        narrow(D.two(-150), 0);
        narrow(D.two(-150) - 1, 0);
        narrow(D.two(-150) + 1, F.least);
        narrow(D.two(-151), 0);
        narrow(leastOfFloats + (D.normal >> 1) - 1, F.least);
        narrow(leastOfFloats + (D.normal >> 1), 2);
        narrow(leastOfFloats + (D.normal >> 1) + 1, 2);
        narrow(D.two(-148) + (D.normal >> 2), 2);
        narrow(D.two(-126) - (1L << 30), F.small);
        narrow(D.two(-126) - (1L << 29) - 1, F.small);
        narrow(D.two(-126) - (1L << 29), F.normal);
        narrow(D.normal, 0);
        narrow(D.small, 0);
        narrow(D.least, 0);
    }

    private static void narrowedNan() {
        CHECK.sentence("The FLOAT nearest to a DOUBLE. (NaN as a result is 0x7FC00000)");
        for (long nan : D.nans()) {
            CHECK.due("narrow(" + D.told(nan) + ")", CHECK.any().narrow(nan), 0x7FC00000);
        }
        // Its fraction's bits are all below those that a FLOAT has.
        CHECK.due("narrow", CHECK.any().narrow(D.infinite + (1L << 28)), 0x7FC00000);
    }

    private static void halves() {
        CHECK.sentence("A half of a DOUBLE: the upper one (high), the lower one.");
        long[][] rows = {
            {0, 0, 0},
            {-1, -1, -1},
            {1, 0, 1},
            {0x80000000L, 0, Integer.MIN_VALUE},
            {0xFFFFFFFFL, 0, -1},
            {0x100000000L, 1, 0},
            {Long.MIN_VALUE, Integer.MIN_VALUE, 0},
            {Long.MAX_VALUE, Integer.MAX_VALUE, -1},
            {0x7FF0000000000001L, 0x7FF00000, 1},
            {0xFFF00000FFFFFFFEL, 0xFFF00000, -2}
        };
        for (long[] row : rows) {
            CHECK.due("half(" + row[0] + ", true)", CHECK.any().half(row[0], true), (int) row[1]);
            CHECK.due("half(" + row[0] + ", false)", CHECK.any().half(row[0], false), (int) row[2]);
        }
    }

    private static void joined() {
        CHECK.sentence("The DOUBLE of two halves.");
        long[][] rows = {
            {0, 0, 0},
            {-1, -1, -1},
            {0, 1, 1},
            {0, -1, 0xFFFFFFFFL},
            {0, Integer.MIN_VALUE, 0x80000000L},
            {1, 0, 0x100000000L},
            {-1, 0, 0xFFFFFFFF00000000L},
            {Integer.MIN_VALUE, 0, Long.MIN_VALUE},
            {Integer.MIN_VALUE, -1, 0x80000000FFFFFFFFL},
            {Integer.MAX_VALUE, -1, Long.MAX_VALUE},
            {0x7FF00000, 1, 0x7FF0000000000001L},
            {0xFFF80000, Integer.MAX_VALUE, 0xFFF800007FFFFFFFL}
        };
        for (long[] row : rows) {
            CHECK.due("join(" + row[0] + ", " + row[1] + ")", CHECK.any().join((int) row[0], (int) row[1]), row[2]);
        }
    }
}
