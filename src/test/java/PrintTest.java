import java.math.BigDecimal;
import java.math.RoundingMode;

/** Promises 10 and 11: print and at. */
public final class PrintTest {
    private static final Check CHECK = new Check("PrintTest");

    public static void main(String[] args) {
        for (int a : ActTest.EDGES) {
            for (int places = 0; places <= 40; places++) {
                printed(a, places);
            }
        }
        for (int i = 0; i < 20000; i++) {
            printed((int) CHECK.number(), CHECK.below(41));
            printed((int) CHECK.number() & 0x87FFFFFF | 0x38000000, CHECK.below(41));
        }
        for (int i = 0; i < 2000; i++) {
            oneAfterAnother();
        }
        writtenAnswers();
        refusals();
        CHECK.end();
    }

    static String want(int a, int places) {
        float value = Float.intBitsToFloat(a);
        if (Float.isNaN(value)) {
            return "nan";
        }
        String sign = a < 0 ? "-" : "";
        if (Float.isInfinite(value)) {
            return sign + "inf";
        }
        return sign + new BigDecimal(Math.abs((double) value)).setScale(places, RoundingMode.DOWN)
            .toPlainString();
    }

    private static void printed(int a, int places) {
        told(a, places, want(a, places));
    }

    /** Nothing of an earlier number is left in a later one; 6 prints with their bytes stay below 512 calls. */
    private static void oneAfterAnother() {
        GlulxFloats object = new GlulxFloats();
        for (int i = 0; i < 6; i++) {
            int a = CHECK.below(2) == 0 ? (int) CHECK.number() : ActTest.EDGES[CHECK.below(ActTest.EDGES.length)];
            int places = CHECK.below(2) * CHECK.below(41);
            told(object, a, places, want(a, places));
        }
    }

    private static void told(int a, int places, String want) {
        told(new GlulxFloats(), a, places, want);
    }

    private static void told(GlulxFloats object, int a, int places, String want) {
        String call = "print(" + a + ", " + places + ")";
        CHECK.due(call, object.print(a, places), want.length());
        text(call, object, want);
    }

    private static void text(String call, GlulxFloats object, String want) {
        for (int i = 0; i < want.length(); i++) {
            CHECK.due(call + ", at(" + i + ")", object.at(i), want.charAt(i));
        }
        CHECK.due(call + ", at behind it", object.at(want.length()), GlulxFloats.NONE);
        CHECK.due(call + ", at before it", object.at(-1), GlulxFloats.NONE);
    }

    private static void writtenAnswers() {
        told(0x3DCCCCCD, 40, "0.1000000014901161193847656250000000000000");
        told(0x3F7FFFFF, 2, "0.99");
        told(0x3F7FFFFF, 0, "0");
        told(0xBF7FFFFF, 0, "-0");
        told(0x80000000, 2, "-0.00");
        told(0x7F7FFFFF, 1, "340282346638528859811704183484516925440.0");
        told(0xFF7FFFFF, 40,
            "-340282346638528859811704183484516925440.0000000000000000000000000000000000000000");
        told(0x00800000, 40, "0.0000000000000000000000000000000000000117");
        told(0xFF800000, 0, "-inf");
        told(0xFF800001, 40, "nan");
        told(0x41200000, 0, "10");
    }

    private static void refusals() {
        GlulxFloats object = new GlulxFloats();
        CHECK.due("at(0), nothing PRINTED", object.at(0), GlulxFloats.NONE);
        object.print(0x3FC00000, 3);
        int[] wrong = {-1, 41, Integer.MIN_VALUE, Integer.MAX_VALUE};
        for (int places : wrong) {
            CHECK.due("print(0, " + places + ")", object.print(0, places), GlulxFloats.OUTSIDE);
            CHECK.due("print(NaN, " + places + ")", object.print(0x7FC00000, places), GlulxFloats.OUTSIDE);
        }
        text("after refusals", object, "1.500");
        CHECK.due("at(least)", object.at(Integer.MIN_VALUE), GlulxFloats.NONE);
        CHECK.due("at(greatest)", object.at(Integer.MAX_VALUE), GlulxFloats.NONE);
        object.print(0x41200000, 0);
        text("a shorter one after a longer one", object, "10");
    }
}
