/** "1 ACTS", 0 to 20, and promises 2 and 3: each edge that the document names, of FLOATS and of DOUBLES. */
public final class ActEdgesTest {
    private static final Check CHECK = new Check("ActEdgesTest");

    public static void main(String[] args) {
        noSuchAct();
        for (Kind k : Kind.both(CHECK)) {
            unusedNumbers(k);
            sums(k);
            products(k);
            quotients(k);
            rest(k);
            restOfNoNumber(k);
            quotientByRest(k);
            root(k);
            notBelow(k);
            notAbove(k);
            nearest(k);
            wholesThatStay(k);
            lesser(k);
            greater(k);
            signs(k);
            power(k);
            powerBelowZero(k);
            scale(k);
            scaleFar(k);
            nextAbove(k);
            stepOf(k);
            exponentOf(k);
            productAndSum(k);
        }
        CHECK.end();
    }

    private static void due(Kind k, int act, long a, long b, long c, long want) {
        String call = k.name + " ACT " + act + " of " + k.told(a) + ", " + k.told(b) + ", " + k.told(c);
        CHECK.due(call, k.act(act, a, b, c), want);
    }

    private static void due(Kind k, int act, long a, long b, long want) {
        due(k, act, a, b, 0, want);
    }

    private static void due(Kind k, int act, long a, long want) {
        due(k, act, a, 0, 0, want);
    }

    /** Of a and of -a: the answers are of one size, with the sign turned. */
    private static void mirrored(Kind k, int act, long a, long b, long want) {
        due(k, act, a, b, want);
        due(k, act, k.minus(a), b, k.minus(want));
    }

    private static void noSuchAct() {
        int[] wrong = {-1, 24, 25, 29, 30, 37, 40, 43, Integer.MIN_VALUE, Integer.MAX_VALUE};
        CHECK.sentence("An ACT of FLOATS. IllegalArgumentException: there is none such.");
        for (int act : wrong) {
            CHECK.due("act(" + act + ", ..) throws", thrownByAct(act), 1);
        }
        for (int act = 0; act <= 23; act++) {
            CHECK.due("act(" + act + ", ..) throws", thrownByAct(act), 0);
        }
        CHECK.sentence("An ACT of DOUBLES. IllegalArgumentException: there is none such.");
        for (int act : wrong) {
            CHECK.due("wide(" + act + ", ..) throws", thrownByWide(act), 1);
        }
        for (int act = 0; act <= 23; act++) {
            CHECK.due("wide(" + act + ", ..) throws", thrownByWide(act), 0);
        }
    }

    /** 0: nothing, 1: what is due, 2: another exception. */
    private static int thrownByAct(int act) {
        try {
            CHECK.any().act(act, 0x7FC00000, 0x3F800000, 0);
            return 0;
        } catch (RuntimeException e) {
            return e.getClass() == IllegalArgumentException.class ? 1 : 2;
        }
    }

    private static int thrownByWide(int act) {
        try {
            CHECK.any().wide(act, 0x7FF8000000000000L, 0x3FF0000000000000L, 0);
            return 0;
        } catch (RuntimeException e) {
            return e.getClass() == IllegalArgumentException.class ? 1 : 2;
        }
    }

    private static void unusedNumbers(Kind k) {
        CHECK.sentence("1 ACTS, of FLOATS a, b, c (what an ACT does not name does not matter)");
        for (int act = 0; act <= 19; act++) {
            due(k, act, k.of(5), k.of(3), k.nan, k.act(act, k.of(5), k.of(3), 0));
        }
        int[] ofOne = {6, 7, 8, 9, 12, 13, 16, 18, 19, 21, 22, 23};
        for (int act : ofOne) {
            due(k, act, k.halves(5), k.nan, k.nan, k.act(act, k.halves(5), 0, 0));
        }
    }

    private static void sums(Kind k) {
        CHECK.sentence("0 a + b. 1 a - b. (zeros and infinite ones)");
        long infinite = k.infinite;
        due(k, 0, 0, 0, 0);
        due(k, 0, 0, k.sign, 0);
        due(k, 0, k.sign, 0, 0);
        due(k, 0, k.sign, k.sign, k.sign);
        due(k, 1, 0, 0, 0);
        due(k, 1, k.sign, 0, k.sign);
        due(k, 1, 0, k.sign, 0);
        due(k, 1, k.sign, k.sign, 0);
        due(k, 0, k.one, k.minus(k.one), 0);
        due(k, 0, k.minus(k.least), k.least, 0);
        due(k, 1, k.minus(k.one), k.minus(k.one), 0);
        mirrored(k, 0, k.least, 0, k.least);
        mirrored(k, 0, k.greatest, k.sign, k.greatest);
        due(k, 0, 0, k.minus(k.least), k.minus(k.least));
        due(k, 1, 0, k.least, k.minus(k.least));
        due(k, 1, k.sign, k.greatest, k.minus(k.greatest));
        mirrored(k, 0, infinite, k.greatest, infinite);
        mirrored(k, 1, infinite, k.greatest, infinite);
        due(k, 0, infinite, infinite, infinite);
        due(k, 0, k.minus(infinite), k.minus(infinite), k.minus(infinite));
        due(k, 1, infinite, k.minus(infinite), infinite);
        due(k, 1, k.minus(infinite), infinite, k.minus(infinite));
        due(k, 0, k.greatest, k.minus(infinite), k.minus(infinite));
        due(k, 1, k.greatest, k.minus(infinite), infinite);
        due(k, 1, 0, infinite, k.minus(infinite));
    }

    private static void products(Kind k) {
        CHECK.sentence("2 a b. (zeros and infinite ones)");
        long infinite = k.infinite;
        mirrored(k, 2, 0, 0, 0);
        mirrored(k, 2, 0, k.greatest, 0);
        mirrored(k, 2, 0, k.minus(k.greatest), k.sign);
        mirrored(k, 2, k.least, 0, 0);
        mirrored(k, 2, k.least, k.sign, k.sign);
        mirrored(k, 2, infinite, k.least, infinite);
        mirrored(k, 2, infinite, k.minus(k.least), k.minus(infinite));
        mirrored(k, 2, k.least, infinite, infinite);
        mirrored(k, 2, infinite, infinite, infinite);
        mirrored(k, 2, infinite, k.minus(infinite), k.minus(infinite));
        mirrored(k, 2, k.greatest, k.one, k.greatest);
        mirrored(k, 2, k.least, k.minus(k.one), k.minus(k.least));
    }

    private static void quotients(Kind k) {
        CHECK.sentence("3 a / b. (zeros and infinite ones)");
        long infinite = k.infinite;
        mirrored(k, 3, k.least, 0, infinite);
        mirrored(k, 3, k.greatest, k.sign, k.minus(infinite));
        mirrored(k, 3, infinite, 0, infinite);
        mirrored(k, 3, infinite, k.sign, k.minus(infinite));
        mirrored(k, 3, infinite, k.greatest, infinite);
        mirrored(k, 3, infinite, k.minus(k.least), k.minus(infinite));
        mirrored(k, 3, k.greatest, infinite, 0);
        mirrored(k, 3, k.greatest, k.minus(infinite), k.sign);
        mirrored(k, 3, 0, infinite, 0);
        mirrored(k, 3, 0, k.least, 0);
        mirrored(k, 3, 0, k.minus(k.greatest), k.sign);
    }

    private static void rest(Kind k) {
        CHECK.sentence("4 REST: a less b times (a / b, exactly, cut off toward 0)");
        mirrored(k, 4, k.of(5), k.of(3), k.of(2));
        mirrored(k, 4, k.of(5), k.of(-3), k.of(2));
        mirrored(k, 4, k.of(2), k.of(3), k.of(2));
        mirrored(k, 4, k.one - 1, k.one, k.one - 1);
        mirrored(k, 4, k.one + 1, k.one, k.two(-k.fraction));
        mirrored(k, 4, k.least, k.greatest, k.least);
        mirrored(k, 4, k.small, k.normal, k.small);
        mirrored(k, 4, k.normal, k.small, k.least);
        // a / b, rounded, would be a whole number above a / b.
        mirrored(k, 4, k.two(k.fraction + 3), k.of(3), k.of(k.fraction == 23 ? 1 : 2));

        CHECK.sentence("4 REST: it has the sign of a, and is exact");
        mirrored(k, 4, k.of(6), k.of(3), 0);
        mirrored(k, 4, k.of(6), k.of(-3), 0);
        mirrored(k, 4, k.one, k.one, 0);
        mirrored(k, 4, 0, k.one, 0);
        mirrored(k, 4, 0, k.minus(k.least), 0);
        mirrored(k, 4, k.greatest, k.least, 0);
        mirrored(k, 4, k.greatest, k.greatest, 0);
        mirrored(k, 4, k.two(k.bias), 3, k.fraction == 23 ? 1 : 2);
        mirrored(k, 4, k.greatest, k.two(k.bias), k.greatest - k.normal - 1);
        mirrored(k, 4, k.one, k.one - 1, k.two(-k.fraction - 1));
    }

    private static void restOfNoNumber(Kind k) {
        CHECK.sentence("4 REST: NaN, if a is infinite, b is 0, or one is NaN");
        for (long number : k.numbers()) {
            due(k, 4, k.infinite, number, k.nan);
            due(k, 4, k.minus(k.infinite), number, k.nan);
            due(k, 4, number, 0, k.nan);
            due(k, 4, number, k.sign, k.nan);
            due(k, 4, number, k.minus(k.nan), k.nan);
            due(k, 4, k.infinite + 1, number, k.nan);
        }
        CHECK.sentence("4 REST: a, if b alone is infinite");
        long[] sizes = {0, k.least, k.small, k.normal, k.one, k.greatest};
        for (long size : sizes) {
            mirrored(k, 4, size, k.infinite, size);
            mirrored(k, 4, size, k.minus(k.infinite), size);
        }
    }

    private static void quotientByRest(Kind k) {
        CHECK.sentence("5 QUOTIENT: (a less the REST, rounded) / b, rounded.");
        mirrored(k, 5, k.of(7), k.of(2), k.of(3));
        mirrored(k, 5, k.of(7), k.of(-2), k.of(-3));
        mirrored(k, 5, k.greatest, k.greatest, k.one);
        mirrored(k, 5, k.greatest, k.least, k.infinite);
        mirrored(k, 5, k.greatest, k.one, k.greatest);
        // a less the REST is a tie, goes down to a - 4, and so the whole number is one too low.
        long a = (1L << k.fraction + 2) + (k.fraction == 23 ? 12 : 4);
        mirrored(k, 5, k.of(a), k.of(3), k.of((a - 2) / 3 - 1));
        // The quotient is rounded, too: here to an even number.
        long quotient = k.fraction == 23 ? 22369622 : 12009599006321322L;
        mirrored(k, 5, k.two(k.fraction + 3), k.of(3), k.of(quotient));

        CHECK.sentence("5 QUOTIENT: a less the REST is 0, and so its sign is that of b");
        long[] below = {0, k.sign, k.least, k.minus(k.least), k.one - 1, k.minus(k.one - 1)};
        for (long small : below) {
            due(k, 5, small, k.one, 0);
            due(k, 5, small, k.minus(k.one), k.sign);
            due(k, 5, small, k.infinite, 0);
            due(k, 5, small, k.minus(k.infinite), k.sign);
        }
        due(k, 5, k.greatest, k.infinite, 0);
        due(k, 5, k.minus(k.greatest), k.infinite, 0);
        due(k, 5, k.minus(k.greatest), k.minus(k.infinite), k.sign);

        CHECK.sentence("5 QUOTIENT: NaN where the REST is NaN");
        for (long number : k.numbers()) {
            due(k, 5, k.infinite, number, k.nan);
            due(k, 5, k.minus(k.infinite), number, k.nan);
            due(k, 5, number, 0, k.nan);
            due(k, 5, number, k.sign, k.nan);
            due(k, 5, number, k.minus(k.nan), k.nan);
            due(k, 5, k.infinite + 1, number, k.nan);
        }
    }

    private static void root(Kind k) {
        CHECK.sentence("6 the root (of less than 0 NaN");
        due(k, 6, k.minus(k.least), k.nan);
        due(k, 6, k.minus(k.normal), k.nan);
        due(k, 6, k.minus(k.one), k.nan);
        due(k, 6, k.minus(k.greatest), k.nan);
        due(k, 6, k.minus(k.infinite), k.nan);
        CHECK.sentence("6 the root (.. of -0 -0)");
        due(k, 6, k.sign, k.sign);
        CHECK.sentence("6 the root (of 0, the least, the greatest, infinite)");
        due(k, 6, 0, 0);
        due(k, 6, k.infinite, k.infinite);
        due(k, 6, k.of(9), k.of(3));
        due(k, 6, k.one, k.one);
        due(k, 6, k.least, k.fraction == 23 ? 0x1A3504F3L : k.two(-537));
        due(k, 6, k.greatest, k.two((k.bias + 1) / 2) - 1);
    }

    private static void notBelow(Kind k) {
        CHECK.sentence("7 the least whole number not below a");
        due(k, 7, k.least, k.one);
        due(k, 7, k.one - 1, k.one);
        due(k, 7, k.one, k.one);
        due(k, 7, k.one + 1, k.of(2));
        due(k, 7, k.of(2) - 1, k.of(2));
        due(k, 7, k.minus(k.one), k.minus(k.one));
        due(k, 7, k.minus(k.one + 1), k.minus(k.one));
        due(k, 7, k.minus(k.of(2) - 1), k.minus(k.one));
        due(k, 7, k.two(k.fraction) - 1, k.two(k.fraction));
        due(k, 7, k.minus(k.two(k.fraction) - 1), k.minus(k.two(k.fraction) - 2));
        due(k, 7, k.two(k.fraction) + 1, k.two(k.fraction) + 1);
        CHECK.sentence("7 (with the sign of a, when it is 0)");
        due(k, 7, 0, 0);
        due(k, 7, k.sign, k.sign);
        due(k, 7, k.minus(k.least), k.sign);
        due(k, 7, k.minus(k.halves(1)), k.sign);
        due(k, 7, k.minus(k.one - 1), k.sign);
    }

    private static void notAbove(Kind k) {
        CHECK.sentence("8 the greatest one not above a");
        due(k, 8, k.minus(k.least), k.minus(k.one));
        due(k, 8, k.minus(k.one - 1), k.minus(k.one));
        due(k, 8, k.minus(k.one), k.minus(k.one));
        due(k, 8, k.minus(k.one + 1), k.of(-2));
        due(k, 8, k.minus(k.of(2) - 1), k.of(-2));
        due(k, 8, k.one, k.one);
        due(k, 8, k.one + 1, k.one);
        due(k, 8, k.of(2) - 1, k.one);
        due(k, 8, k.minus(k.two(k.fraction) - 1), k.minus(k.two(k.fraction)));
        due(k, 8, k.two(k.fraction) - 1, k.two(k.fraction) - 2);
        due(k, 8, k.minus(k.two(k.fraction) + 1), k.minus(k.two(k.fraction) + 1));
        CHECK.sentence("8 (with the sign of a, when it is 0)");
        due(k, 8, 0, 0);
        due(k, 8, k.sign, k.sign);
        due(k, 8, k.least, 0);
        due(k, 8, k.halves(1), 0);
        due(k, 8, k.one - 1, 0);
    }

    private static void nearest(Kind k) {
        CHECK.sentence("9 the nearest one, of two the even one");
        mirrored(k, 9, k.halves(1) + 1, 0, k.one);
        mirrored(k, 9, k.one - 1, 0, k.one);
        mirrored(k, 9, k.halves(3) - 1, 0, k.one);
        mirrored(k, 9, k.halves(3), 0, k.of(2));
        mirrored(k, 9, k.halves(5), 0, k.of(2));
        mirrored(k, 9, k.halves(5) + 1, 0, k.of(3));
        mirrored(k, 9, k.halves(7) - 1, 0, k.of(3));
        mirrored(k, 9, k.halves(7), 0, k.of(4));
        mirrored(k, 9, k.two(k.fraction) - 1, 0, k.two(k.fraction));
        mirrored(k, 9, k.two(k.fraction) - 3, 0, k.two(k.fraction) - 4);
        mirrored(k, 9, k.two(k.fraction - 1) + 1, 0, k.two(k.fraction - 1));
        mirrored(k, 9, k.two(k.fraction) + 1, 0, k.two(k.fraction) + 1);
        CHECK.sentence("9 (with the sign of a, when it is 0)");
        mirrored(k, 9, 0, 0, 0);
        mirrored(k, 9, k.least, 0, 0);
        mirrored(k, 9, k.halves(1) - 1, 0, 0);
        mirrored(k, 9, k.halves(1), 0, 0);
    }

    private static void wholesThatStay(Kind k) {
        CHECK.sentence("7, 8, 9: infinite ones and NaN stay");
        for (int act = 7; act <= 9; act++) {
            mirrored(k, act, k.infinite, 0, k.infinite);
            mirrored(k, act, k.greatest, 0, k.greatest);
            for (long nan : k.nans()) {
                due(k, act, nan, k.nan);
            }
        }
    }

    private static void lesser(Kind k) {
        CHECK.sentence("10 the lesser");
        due(k, 10, k.one, k.one + 1, k.one);
        due(k, 10, k.minus(k.one), k.minus(k.one + 1), k.minus(k.one + 1));
        due(k, 10, k.least, k.sign, k.sign);
        due(k, 10, k.minus(k.least), k.sign, k.minus(k.least));
        due(k, 10, k.infinite, k.greatest, k.greatest);
        due(k, 10, k.minus(k.greatest), k.minus(k.infinite), k.minus(k.infinite));
        CHECK.sentence("10 (NaN, if one is NaN)");
        due(k, 10, k.minus(k.infinite), k.minus(k.nan), k.nan);
        due(k, 10, k.infinite + 1, k.minus(k.infinite), k.nan);
        due(k, 10, k.sign, k.nan + 1, k.nan);
        CHECK.sentence("10 (-0 is less than 0)");
        due(k, 10, k.sign, 0, k.sign);
        due(k, 10, 0, k.sign, k.sign);
        due(k, 10, 0, 0, 0);
        due(k, 10, k.sign, k.sign, k.sign);
    }

    private static void greater(Kind k) {
        CHECK.sentence("11 the greater one");
        due(k, 11, k.one, k.one + 1, k.one + 1);
        due(k, 11, k.minus(k.one), k.minus(k.one + 1), k.minus(k.one));
        due(k, 11, k.minus(k.least), 0, 0);
        due(k, 11, k.minus(k.least), k.sign, k.sign);
        due(k, 11, k.infinite, k.greatest, k.infinite);
        due(k, 11, k.minus(k.greatest), k.minus(k.infinite), k.minus(k.greatest));
        CHECK.sentence("11 (NaN, if one is NaN)");
        due(k, 11, k.infinite, k.minus(k.nan), k.nan);
        due(k, 11, k.infinite + 1, k.infinite, k.nan);
        due(k, 11, 0, k.nan + 1, k.nan);
        CHECK.sentence("11 (-0 is less than 0)");
        due(k, 11, k.sign, 0, 0);
        due(k, 11, 0, k.sign, 0);
        due(k, 11, 0, 0, 0);
        due(k, 11, k.sign, k.sign, k.sign);
    }

    private static void signs(Kind k) {
        CHECK.sentence("12 a with sign bit 0.");
        for (long a : k.numbers()) {
            due(k, 12, a, a & k.sign - 1);
        }
        CHECK.sentence("13 a with the sign bit turned.");
        for (long a : k.numbers()) {
            due(k, 13, a, k.minus(a));
        }
        CHECK.sentence("17 a with the sign bit of b.");
        for (long a : k.numbers()) {
            for (long b : k.numbers()) {
                due(k, 17, a, b, a & k.sign - 1 | b & k.sign);
            }
        }
    }

    private static void power(Kind k) {
        CHECK.sentence("14 POWER: n is the whole number of the lowest six bits of b, with sign (-32 to 31)");
        due(k, 14, k.of(2), 31, k.two(31));
        due(k, 14, k.of(2), 32, k.two(-32));
        due(k, 14, k.of(2), 33, k.two(-31));
        due(k, 14, k.of(2), 63, k.halves(1));
        due(k, 14, k.of(2), 64, k.one);
        due(k, 14, k.of(2), 65, k.of(2));
        due(k, 14, k.of(2), -1, k.halves(1));
        due(k, 14, k.of(2), -32, k.two(-32));
        due(k, 14, k.of(2), -33, k.two(31));
        due(k, 14, k.of(2), -64, k.one);
        due(k, 14, k.of(2), Integer.MIN_VALUE, k.one);
        due(k, 14, k.of(2), Integer.MAX_VALUE, k.halves(1));
        due(k, 14, k.of(2), Long.MIN_VALUE + 3, k.of(8));
        due(k, 14, k.of(2), Long.MAX_VALUE, k.halves(1));

        CHECK.sentence("14 POWER: 1 times a, so often as n tells without its sign, each product rounded");
        due(k, 14, k.of(3), 1, k.of(3));
        due(k, 14, k.of(-3), 3, k.of(-27));
        due(k, 14, k.of(-3), 2, k.of(9));
        due(k, 14, k.of(3), 22, k.fraction == 23 ? 0x50E9CEA0L : k.of(31381059609L));
        due(k, 14, k.of(5), 25, k.fraction == 23 ? 0x5C845952L : 0x43908B2A2C280290L);
        due(k, 14, k.greatest, 1, k.greatest);
        due(k, 14, k.minus(k.greatest), 3, k.minus(k.infinite));
        due(k, 14, k.least, 2, 0);
        due(k, 14, k.minus(k.least), 3, k.sign);
        due(k, 14, 0, 31, 0);
        due(k, 14, k.sign, 31, k.sign);
        due(k, 14, k.sign, 30, 0);
        due(k, 14, k.minus(k.infinite), 1, k.minus(k.infinite));
        due(k, 14, k.minus(k.infinite), 2, k.infinite);

        CHECK.sentence("14 POWER: 1 times a, no times");
        for (long a : k.numbers()) {
            due(k, 14, a, 0, k.one);
        }
        for (long nan : k.nans()) {
            due(k, 14, nan, 0, k.one);
        }
    }

    private static void powerBelowZero(Kind k) {
        CHECK.sentence("14 POWER: below 0 1 divided by that");
        due(k, 14, k.of(5), -2, k.fraction == 23 ? 0x3D23D70AL : 0x3FA47AE147AE147BL);
        due(k, 14, k.of(-2), -3, k.minus(k.two(-3)));
        due(k, 14, 0, -1, k.infinite);
        due(k, 14, k.sign, -1, k.minus(k.infinite));
        due(k, 14, k.sign, -2, k.infinite);
        due(k, 14, 0, -32, k.infinite);
        due(k, 14, k.infinite, -1, 0);
        due(k, 14, k.minus(k.infinite), -1, k.sign);
        due(k, 14, k.minus(k.infinite), -2, 0);
        due(k, 14, k.least, -1, k.infinite);
        due(k, 14, k.greatest, -1, k.two(-k.bias - 1));
        due(k, 14, k.greatest, -2, 0);
        // The power is infinite, though 1 divided by it, exactly, would be a number.
        due(k, 14, k.two((k.bias + 1) / 2), -2, 0);
        due(k, 14, k.nan + 1, -1, k.nan);
    }

    private static void scale(Kind k) {
        CHECK.sentence("15 a times 2 to the b, b being a whole number.");
        mirrored(k, 15, k.of(3), 0, k.of(3));
        mirrored(k, 15, k.of(3), 1, k.of(6));
        mirrored(k, 15, k.of(3), -1, k.halves(3));
        mirrored(k, 15, k.one, k.bias, k.two(k.bias));
        mirrored(k, 15, k.one, k.bias + 1, k.infinite);
        mirrored(k, 15, k.greatest, 1, k.infinite);
        mirrored(k, 15, k.greatest, 0, k.greatest);
        mirrored(k, 15, k.one, 1 - k.bias, k.normal);
        mirrored(k, 15, k.one, -k.bias, k.two(-k.bias));
        int toLeast = 1 - k.bias - k.fraction;
        mirrored(k, 15, k.one, toLeast, k.least);
        mirrored(k, 15, k.one, toLeast - 1, 0);
        mirrored(k, 15, k.one + 1, toLeast - 1, k.least);
        mirrored(k, 15, k.one - 1, toLeast - 1, 0);
        mirrored(k, 15, k.one - 1, toLeast, k.least);
        mirrored(k, 15, k.halves(3), toLeast, 2);
        mirrored(k, 15, k.halves(5), toLeast, 2);
        mirrored(k, 15, k.least, -1, 0);
        mirrored(k, 15, 3, -1, 2);
        mirrored(k, 15, k.small, -1, k.normal >> 1);
        mirrored(k, 15, k.least, k.bias - toLeast, k.two(k.bias));
        mirrored(k, 15, k.least, k.bias - toLeast + 1, k.infinite);
        mirrored(k, 15, k.greatest, toLeast - k.bias - 1, k.least);
        mirrored(k, 15, k.greatest, toLeast - k.bias - 2, 0);
    }

    private static void scaleFar(Kind k) {
        CHECK.sentence("15 a times 2 to the b (b as far as it goes)");
        long most = k.fraction == 23 ? Integer.MAX_VALUE : Long.MAX_VALUE;
        long[] far = {5000, 1L << 16, 1L << 30, most - 1000, most};
        for (long b : far) {
            mirrored(k, 15, k.least, b, k.infinite);
            mirrored(k, 15, k.greatest, b, k.infinite);
            mirrored(k, 15, 0, b, 0);
            mirrored(k, 15, k.infinite, b, k.infinite);
            mirrored(k, 15, k.greatest, -b, 0);
            mirrored(k, 15, k.greatest, -b - 1, 0);
            mirrored(k, 15, 0, -b - 1, 0);
            mirrored(k, 15, k.infinite, -b - 1, k.infinite);
            due(k, 15, k.minus(k.nan), b, k.nan);
        }
        if (k.fraction == 52) {
            long[] wide = {1L << 31, (1L << 32) - 1, 1L << 32, (1L << 32) + 1, 0xFFFFFFFFFFL};
            for (long b : wide) {
                mirrored(k, 15, k.least, b, k.infinite);
                mirrored(k, 15, k.greatest, -b, 0);
            }
        }
    }

    private static void nextAbove(Kind k) {
        CHECK.sentence("16 the next FLOAT above a");
        due(k, 16, k.least, 2);
        due(k, 16, k.small, k.normal);
        due(k, 16, k.one - 1, k.one);
        due(k, 16, k.one, k.one + 1);
        due(k, 16, k.minus(k.one), k.minus(k.one - 1));
        due(k, 16, k.minus(k.normal), k.minus(k.small));
        due(k, 16, k.minus(2), k.minus(k.least));
        due(k, 16, k.minus(k.least), k.sign);
        due(k, 16, k.greatest - 1, k.greatest);
        due(k, 16, k.minus(k.greatest), k.minus(k.greatest - 1));
        due(k, 16, k.minus(k.infinite), k.minus(k.greatest));
        CHECK.sentence("16 (of -0 and 0 the least one above 0)");
        due(k, 16, 0, k.least);
        due(k, 16, k.sign, k.least);
        CHECK.sentence("16 (of the greatest infinite)");
        due(k, 16, k.greatest, k.infinite);
        CHECK.sentence("16 (infinite above 0 and NaN stay)");
        due(k, 16, k.infinite, k.infinite);
        for (long nan : k.nans()) {
            due(k, 16, nan, k.nan);
        }
    }

    private static void bothSigns(Kind k, int act, long a, long want) {
        due(k, act, a, want);
        due(k, act, k.minus(a), want);
    }

    private static void stepOf(Kind k) {
        CHECK.sentence("18 the STEP of a: what lies between the size of a and the next size above");
        bothSigns(k, 18, k.one, k.two(-k.fraction));
        bothSigns(k, 18, k.one + 1, k.two(-k.fraction));
        bothSigns(k, 18, k.one - 1, k.two(-k.fraction - 1));
        bothSigns(k, 18, k.of(2) - 1, k.two(-k.fraction));
        bothSigns(k, 18, k.of(2), k.two(1 - k.fraction));
        bothSigns(k, 18, k.least, k.least);
        bothSigns(k, 18, k.small, k.least);
        bothSigns(k, 18, k.normal, k.least);
        bothSigns(k, 18, 2 * k.normal - 1, k.least);
        bothSigns(k, 18, 2 * k.normal, 2);
        bothSigns(k, 18, k.two(k.bias) - 1, k.two(k.bias - 1 - k.fraction));
        CHECK.sentence("18 (of 0 the least FLOAT)");
        bothSigns(k, 18, 0, k.least);
        CHECK.sentence("18 (of the greatest size what lies below it)");
        bothSigns(k, 18, k.greatest, k.two(k.bias - k.fraction));
        CHECK.sentence("18 (of an infinite one infinite)");
        bothSigns(k, 18, k.infinite, k.infinite);
        CHECK.sentence("18 (NaN of NaN)");
        for (long nan : k.nans()) {
            due(k, 18, nan, k.nan);
        }
    }

    private static void exponent(Kind k, long a, long want) {
        CHECK.due(k.name + " ACT 19 of " + k.told(a), k.whole(19, a), want);
        CHECK.due(k.name + " ACT 19 of - " + k.told(a), k.whole(19, k.minus(a)), want);
    }

    private static void exponentOf(Kind k) {
        boolean floats = k.fraction == 23;
        CHECK.sentence("19 the EXPONENT of a, a whole number: that of the bits less 127 (19: less 1023)");
        exponent(k, k.one, 0);
        exponent(k, k.of(2) - 1, 0);
        exponent(k, k.of(2), 1);
        exponent(k, k.one - 1, -1);
        exponent(k, k.normal, floats ? -126 : -1022);
        exponent(k, k.greatest, floats ? 127 : 1023);
        CHECK.sentence("19 (so -127 of 0 and of those that are not normal; of DOUBLES -1023)");
        exponent(k, 0, floats ? -127 : -1023);
        exponent(k, k.least, floats ? -127 : -1023);
        exponent(k, k.small, floats ? -127 : -1023);
        CHECK.sentence("19 (128 of infinite ones and NaN; of DOUBLES 1024)");
        exponent(k, k.infinite, floats ? 128 : 1024);
        for (long nan : k.nans()) {
            exponent(k, nan, floats ? 128 : 1024);
        }
    }

    private static void productAndSum(Kind k) {
        CHECK.sentence("20 a b + c. (zeros and infinite ones)");
        long infinite = k.infinite;
        due(k, 20, 0, k.greatest, 0, 0);
        due(k, 20, 0, k.minus(k.greatest), 0, 0);
        due(k, 20, k.sign, k.greatest, k.sign, k.sign);
        due(k, 20, k.sign, k.minus(k.greatest), k.sign, 0);
        due(k, 20, 0, 0, k.sign, 0);
        due(k, 20, k.sign, 0, k.least, k.least);
        due(k, 20, k.of(2), k.of(3), k.of(-6), 0);
        due(k, 20, k.of(-2), k.of(3), k.of(6), 0);
        due(k, 20, k.of(-2), k.of(3), k.of(7), k.one);
        due(k, 20, k.of(2), k.of(3), k.sign, k.of(6));
        due(k, 20, k.greatest, k.greatest, k.minus(infinite), k.minus(infinite));
        due(k, 20, k.greatest, k.greatest, k.minus(k.greatest), infinite);
        due(k, 20, k.minus(k.greatest), k.greatest, k.greatest, k.minus(infinite));
        due(k, 20, infinite, k.least, k.minus(k.greatest), infinite);
        due(k, 20, k.least, k.minus(infinite), k.greatest, k.minus(infinite));
        due(k, 20, infinite, infinite, infinite, infinite);
        due(k, 20, infinite, k.minus(infinite), k.minus(infinite), k.minus(infinite));
        due(k, 20, k.least, k.least, infinite, infinite);
        due(k, 20, k.greatest, k.one, k.minus(k.greatest), 0);
        due(k, 20, k.least, k.one, k.minus(k.least), 0);
    }
}
