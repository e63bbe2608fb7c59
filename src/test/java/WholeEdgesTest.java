/** "1 ACTS", 21 to 23: FLOATS and DOUBLES of whole numbers, and whole numbers of them. */
public final class WholeEdgesTest {
    private static final Check CHECK = new Check("WholeEdgesTest");
    private static final int LEAST = Integer.MIN_VALUE, GREATEST = Integer.MAX_VALUE;

    public static void main(String[] args) {
        Kind floats = Kind.floats(CHECK);
        Kind doubles = Kind.doubles(CHECK);
        floatOfWhole(floats);
        doubleOfWhole(doubles);
        for (Kind k : new Kind[] {floats, doubles}) {
            cutOff(k);
            nearest(k);
            doesNotFit(k);
        }
        justInsideOfFloats(floats);
        justInsideOfDoubles(doubles);
        CHECK.end();
    }

    private static void of(Kind k, long n, long want) {
        CHECK.due(k.name + " ACT 21 of " + n, k.act(21, n, 0, 0), want);
    }

    private static void due(Kind k, int act, long a, long want) {
        CHECK.due(k.name + " ACT " + act + " of " + k.told(a), k.whole(act, a), want);
    }

    private static void mirrored(Kind k, int act, long a, long want) {
        due(k, act, a, want);
        due(k, act, k.minus(a), -want);
    }

    private static void floatOfWhole(Kind k) {
        CHECK.sentence("21 the FLOAT of a whole number a.");
        of(k, 0, 0);
        of(k, 1, k.one);
        of(k, -1, k.minus(k.one));
        of(k, 16777215, k.of(16777215));
        of(k, 16777216, k.of(16777216));
        of(k, 16777217, k.of(16777216));
        of(k, 16777218, k.of(16777218));
        of(k, 16777219, k.of(16777220));
        of(k, -16777217, k.of(-16777216));
        of(k, -16777219, k.of(-16777220));
        of(k, 33554434, k.of(33554432));
        of(k, 33554435, k.of(33554436));
        of(k, GREATEST, k.two(31));
        of(k, 2147483584, k.two(31));
        of(k, 2147483583, k.of(2147483520));
        of(k, LEAST, k.minus(k.two(31)));
        of(k, LEAST + 1, k.minus(k.two(31)));
    }

    private static void doubleOfWhole(Kind k) {
        CHECK.sentence("Of DOUBLES the same (21: of the lower 32 bits of a, with sign)");
        of(k, 0, 0);
        of(k, 1, k.one);
        of(k, -1, k.minus(k.one));
        of(k, GREATEST, k.of(GREATEST));
        of(k, LEAST, k.of(LEAST));
        of(k, 16777217, k.of(16777217));
        of(k, 0x80000000L, k.of(LEAST));
        of(k, 0xFFFFFFFFL, k.minus(k.one));
        of(k, 0x100000000L, 0);
        of(k, 0x100000001L, k.one);
        of(k, 0x17FFFFFFFL, k.of(GREATEST));
        of(k, Long.MIN_VALUE, 0);
        of(k, Long.MIN_VALUE + 1, k.one);
        of(k, Long.MAX_VALUE, k.minus(k.one));
        of(k, 0xFFFFFFFF00000000L, 0);
        of(k, 0xFFFFFFFF00000002L, k.of(2));
        of(k, 0xFFFFFFFF7FFFFFFFL, k.of(GREATEST));
    }

    private static void cutOff(Kind k) {
        CHECK.sentence("22 the whole number of a, cut off toward 0");
        mirrored(k, 22, 0, 0);
        mirrored(k, 22, k.least, 0);
        mirrored(k, 22, k.normal, 0);
        mirrored(k, 22, k.halves(1), 0);
        mirrored(k, 22, k.one - 1, 0);
        mirrored(k, 22, k.one, 1);
        mirrored(k, 22, k.of(2) - 1, 1);
        mirrored(k, 22, k.halves(5), 2);
        mirrored(k, 22, k.of(3) - 1, 2);
        mirrored(k, 22, k.two(22) - 1, 4194303);
        mirrored(k, 22, k.of(16777215), 16777215);
        mirrored(k, 22, k.two(30), 1073741824);
    }

    private static void nearest(Kind k) {
        CHECK.sentence("23 the nearest one, of two the even one");
        mirrored(k, 23, 0, 0);
        mirrored(k, 23, k.least, 0);
        mirrored(k, 23, k.halves(1) - 1, 0);
        mirrored(k, 23, k.halves(1), 0);
        mirrored(k, 23, k.halves(1) + 1, 1);
        mirrored(k, 23, k.one - 1, 1);
        mirrored(k, 23, k.halves(3) - 1, 1);
        mirrored(k, 23, k.halves(3), 2);
        mirrored(k, 23, k.halves(5), 2);
        mirrored(k, 23, k.halves(5) + 1, 3);
        mirrored(k, 23, k.halves(7), 4);
        mirrored(k, 23, k.halves(8388607), 4194304);
        mirrored(k, 23, k.halves(8388609), 4194304);
        mirrored(k, 23, k.halves(16777213), 8388606);
        mirrored(k, 23, k.halves(16777215), 8388608);
        mirrored(k, 23, k.two(30), 1073741824);
    }

    private static void doesNotFit(Kind k) {
        CHECK.sentence("22, 23: what does not fit in 32 bits is 2147483647, or, with the sign bit, -2147483648");
        long[] large = {k.two(31), k.two(31) + 1, k.two(32), k.two(63), k.two(64), k.greatest, k.infinite};
        for (int act = 22; act <= 23; act++) {
            for (long a : large) {
                due(k, act, a, GREATEST);
                due(k, act, k.minus(a), LEAST);
            }
        }
        CHECK.sentence("22, 23: NaN is 2147483647, or, with the sign bit, -2147483648");
        for (int act = 22; act <= 23; act++) {
            for (long nan : k.nans()) {
                due(k, act, nan, (nan & k.sign) == 0 ? GREATEST : LEAST);
            }
        }
    }

    private static void justInsideOfFloats(Kind k) {
        CHECK.sentence("22, 23: what just fits in 32 bits (FLOATS)");
        for (int act = 22; act <= 23; act++) {
            mirrored(k, act, k.two(31) - 1, 2147483520);
            mirrored(k, act, k.two(31) - 2, 2147483392);
            due(k, act, k.minus(k.two(31)), LEAST);
        }
    }

    private static void justInsideOfDoubles(Kind k) {
        CHECK.sentence("Of DOUBLES the same (22, 23: the same whole numbers)");
        long greatest = k.of(GREATEST);
        long least = k.of(LEAST);
        for (int act = 22; act <= 23; act++) {
            due(k, act, greatest, GREATEST);
            due(k, act, k.of(GREATEST - 1), GREATEST - 1);
            due(k, act, least, LEAST);
            due(k, act, k.of(LEAST + 1L), LEAST + 1);
            due(k, act, k.of(LEAST - 1L), LEAST);
            due(k, act, k.of(4294967296L), GREATEST);
            due(k, act, k.of(-4294967297L), LEAST);
            due(k, act, greatest + 1, GREATEST);
            due(k, act, least + 1, LEAST);
        }
        long half = 1L << 52 - 30 - 1;
        due(k, 22, greatest - 1, GREATEST - 1);
        due(k, 23, greatest - 1, GREATEST);
        due(k, 22, k.two(31) - 1, GREATEST);
        due(k, 23, k.two(31) - 1, GREATEST);
        due(k, 22, greatest - half, GREATEST - 1);
        due(k, 23, greatest - half, GREATEST - 1);
        due(k, 23, greatest - half + 1, GREATEST);
        due(k, 23, greatest + half - 1, GREATEST);
        due(k, 23, greatest + half, GREATEST);
        due(k, 22, least - 1, LEAST + 1);
        due(k, 23, least - 1, LEAST);
        due(k, 22, least + (half >> 1), LEAST);
        due(k, 23, least + (half >> 1), LEAST);
    }
}
