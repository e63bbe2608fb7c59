/** "3 PRINTED", and promises 10 and 11: each edge of print and at. */
public final class PrintEdgesTest {
    private static final Check CHECK = new Check("PrintEdgesTest");
    private static final Kind F = Kind.floats(CHECK);
    private static final int OUTSIDE = GlulxFloats.OUTSIDE, NONE = GlulxFloats.NONE;
    private static final String FORTY_ZEROS = "0".repeat(40);
    private static final String GREATEST = "340282346638528859811704183484516925440";

    public static void main(String[] args) {
        signBit();
        nan();
        infinite();
        wholePart();
        point();
        cutOff();
        fortieth();
        places();
        refusedPlaces();
        howMany();
        nothingPrinted();
        beforeAndBehind();
        printedLast();
        CHECK.end();
    }

    private static GlulxFloats printed(long a, int places, String want) {
        GlulxFloats object = new GlulxFloats();
        CHECK.due("print(" + F.told(a) + ", " + places + ")", object.print((int) a, places), want.length());
        isPrinted(object, want);
        return object;
    }

    private static void isPrinted(GlulxFloats object, String want) {
        CHECK.due("at(-1), " + want, object.at(-1), NONE);
        for (int i = 0; i < want.length(); i++) {
            CHECK.due("at(" + i + "), " + want, object.at(i), want.charAt(i));
        }
        CHECK.due("at(" + want.length() + "), " + want, object.at(want.length()), NONE);
    }

    private static void signBit() {
        CHECK.sentence("- with the sign bit");
        printed(F.minus(F.one), 0, "-1");
        printed(F.sign, 0, "-0");
        printed(F.sign, 1, "-0.0");
        printed(F.minus(F.least), 0, "-0");
        printed(F.minus(F.least), 40, "-0." + FORTY_ZEROS);
        printed(F.minus(F.one - 1), 0, "-0");
        printed(F.minus(F.infinite), 0, "-inf");
        printed(F.minus(F.greatest), 0, "-" + GREATEST);
        printed(0, 0, "0");
        printed(0, 1, "0.0");
    }

    private static void nan() {
        CHECK.sentence("- with the sign bit (not of NaN); then nan");
        for (long nan : F.nans()) {
            printed(nan, 0, "nan");
            printed(nan, 1, "nan");
            printed(nan, 40, "nan");
        }
    }

    private static void infinite() {
        CHECK.sentence("then .. inf");
        int[] all = {0, 1, 40};
        for (int places : all) {
            printed(F.infinite, places, "inf");
            printed(F.minus(F.infinite), places, "-inf");
        }
    }

    private static void wholePart() {
        CHECK.sentence("or its whole part in decimal digits");
        printed(F.of(9), 0, "9");
        printed(F.of(10), 0, "10");
        printed(F.of(99), 0, "99");
        printed(F.of(100), 0, "100");
        printed(F.of(1000000), 0, "1000000");
        printed(F.of(16777215), 0, "16777215");
        printed(F.two(24), 0, "16777216");
        printed(F.two(31), 0, "2147483648");
        printed(F.two(32), 0, "4294967296");
        printed(F.two(63), 0, "9223372036854775808");
        printed(F.two(64), 0, "18446744073709551616");
        printed(F.two(96), 0, "79228162514264337593543950336");
        printed(F.two(127), 0, "170141183460469231731687303715884105728");
        printed(F.greatest, 0, GREATEST);
    }

    private static void point() {
        CHECK.sentence("and, with PLACES above 0, a point (.) and so many digits behind it");
        printed(F.halves(5), 0, "2");
        printed(F.halves(5), 1, "2.5");
        printed(F.halves(5), 2, "2.50");
        printed(F.greatest, 1, GREATEST + ".0");
        printed(F.greatest, 40, GREATEST + "." + FORTY_ZEROS);
        printed(F.one, 40, "1." + FORTY_ZEROS);
    }

    private static void cutOff() {
        CHECK.sentence("exactly, cut off");
        printed(F.one - 1, 0, "0");
        printed(F.one - 1, 1, "0.9");
        printed(F.one - 1, 7, "0.9999999");
        printed(F.one - 1, 8, "0.99999994");
        printed(F.one - 1, 24, "0.999999940395355224609375");
        printed(F.one - 1, 25, "0.9999999403953552246093750");
        printed(F.minus(F.one - 1), 2, "-0.99");
        printed(F.of(2) - 1, 6, "1.999999");
        printed(F.of(10) - 1, 0, "9");
        printed(F.of(10) - 1, 3, "9.999");
        printed(F.halves(1), 0, "0");
        printed(F.halves(3), 0, "1");
        printed(0x3DCCCCCDL, 8, "0.10000000");
        printed(0x3DCCCCCDL, 9, "0.100000001");
        printed(0x3DCCCCCDL, 27, "0.100000001490116119384765625");
        printed(F.two(23) - 1, 0, "8388607");
        printed(F.two(23) - 1, 1, "8388607.5");
    }

    /** Numbers so small that their first digits stand at the 40th place, or behind it. */
    private static void fortieth() {
        CHECK.sentence("so many digits behind it, exactly, cut off (the 40th)");
        String zeros = "0".repeat(37);
        printed(F.normal, 40, "0." + zeros + "117");
        printed(F.normal, 39, "0." + zeros + "11");
        printed(F.normal, 37, "0." + zeros);
        printed(F.small, 40, "0." + zeros + "117");
        printed(F.least, 40, "0." + FORTY_ZEROS);
        // 71362 times the least FLOAT lies just below 10 to the -40, 71363 times just above.
        printed(71362, 40, "0." + FORTY_ZEROS);
        printed(71363, 40, "0." + "0".repeat(39) + "1");
        // Of all FLOATS this one comes nearest to a carry: behind the 40th digit it has eight nines.
        printed(0x0CF38BFCL, 40, "0.0000000000000000000000000000003752432814");
        printed(F.two(-40), 40, "0.0000000000009094947017729282379150390625");
        printed(F.two(-41), 40, "0.0000000000004547473508864641189575195312");
    }

    private static void places() {
        CHECK.sentence("A FLOAT is PRINTED, with so many PLACES (0 to 40)");
        for (int places = 0; places <= 40; places++) {
            printed(F.one, places, places == 0 ? "1" : "1." + FORTY_ZEROS.substring(0, places));
        }
    }

    private static void refusedPlaces() {
        CHECK.sentence("PLACES (0 to 40) .. OUTSIDE.");
        int[] wrong = {-1, 41, -40, 42, Integer.MIN_VALUE, Integer.MAX_VALUE};
        long[] all = {0, F.one, F.infinite, F.nan};
        for (int places : wrong) {
            for (long a : all) {
                GlulxFloats object = new GlulxFloats();
                CHECK.due("print(.., " + places + ")", object.print((int) a, places), OUTSIDE);
                CHECK.due("at(0) after print(.., " + places + ")", object.at(0), NONE);
                object.print(0x40200000, 1);
                CHECK.due("print(.., " + places + ")", object.print((int) a, places), OUTSIDE);
                isPrinted(object, "2.5");
            }
        }
    }

    private static void howMany() {
        CHECK.sentence("A FLOAT is PRINTED ..: how many bytes.");
        CHECK.due("the longest", CHECK.any().print(0xFF7FFFFF, 40), 1 + 39 + 1 + 40);
        CHECK.due("the shortest", CHECK.any().print(0, 0), 1);
        CHECK.due("-0", CHECK.any().print(0x80000000, 0), 2);
        CHECK.due("nan", CHECK.any().print(0xFFC00000, 40), 3);
        CHECK.due("inf", CHECK.any().print(0x7F800000, 40), 3);
        CHECK.due("-inf", CHECK.any().print(0xFF800000, 0), 4);
    }

    private static final int[] FAR = {Integer.MIN_VALUE, -2, -1, 81, 82, 1000, Integer.MAX_VALUE};

    private static void nothingPrinted() {
        CHECK.sentence("Byte i of what was PRINTED last. NONE. (nothing PRINTED)");
        GlulxFloats object = new GlulxFloats();
        for (int i = -1; i <= 81; i++) {
            CHECK.due("at(" + i + ") at first", object.at(i), NONE);
        }
        for (int i : FAR) {
            CHECK.due("at(" + i + ") at first", object.at(i), NONE);
        }
        object.print(0xFF7FFFFF, 40);
        object.clear();
        for (int i = -1; i <= 81; i++) {
            CHECK.due("at(" + i + ") after clear()", object.at(i), NONE);
        }
    }

    private static void beforeAndBehind() {
        CHECK.sentence("Byte i of what was PRINTED last. NONE. (before the first, behind the last)");
        GlulxFloats object = printed(F.minus(F.greatest), 40, "-" + GREATEST + "." + FORTY_ZEROS);
        for (int i : FAR) {
            CHECK.due("at(" + i + ") of 81", object.at(i), NONE);
        }
        CHECK.due("at(0) of 81", object.at(0), '-');
        CHECK.due("at(80) of 81", object.at(80), '0');
        object = printed(0, 0, "0");
        CHECK.due("at(1) of 1", object.at(1), NONE);
        CHECK.due("at(0) of 1, once more", object.at(0), '0');
    }

    private static void printedLast() {
        CHECK.sentence("Byte i of what was PRINTED last.");
        GlulxFloats object = printed(F.minus(F.greatest), 40, "-" + GREATEST + "." + FORTY_ZEROS);
        long[] all = {F.nan, F.of(12), F.minus(F.infinite), F.minus(F.halves(3)), F.of(7)};
        String[] wants = {"nan", "12", "-inf", "-1", "7"};
        for (int i = 0; i < all.length; i++) {
            object.print((int) all[i], 0);
            isPrinted(object, wants[i]);
        }
        object.set(0, 5);
        object.step(40, 0, 0, 0, 0);
        object.run(0, 1);
        object.act(0, 1, 2, 3);
        object.drop();
        isPrinted(object, "7");
        object.print((int) F.halves(-3), 2);
        isPrinted(object, "-1.50");
        // The digits that were cut off do not come back behind another number.
        object.print((int) F.normal, 1);
        object.print((int) F.one - 1, 0);
        object.print((int) F.of(7), 40);
        isPrinted(object, "7." + FORTY_ZEROS);
    }
}
