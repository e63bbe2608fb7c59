/**
 * All promises together: rows of 512 calls with any arguments, many of them wrong, on one object, against
 * a model of the whole class. What one call leaves behind must not be seen in another one's answer, and
 * nothing is thrown but what the document names.
 */
public final class AnyCallTest {
    private static final Check CHECK = new Check("AnyCallTest");
    private static final int OUTSIDE = GlulxFloats.OUTSIDE, ROOM = GlulxFloats.ROOM, NONE = GlulxFloats.NONE;
    /** The exceptions, as answers that no call gives here. */
    private static final long ILLEGAL = 0xFFF0DEAD00000001L, NO_WORD = ILLEGAL + 1, OTHER = ILLEGAL + 2;
    private static final int[] BOUNDS = {
        Integer.MIN_VALUE, -1, 0, 1, 7, 8, 14, 15, 16, 23, 24, 30, 37, 38, 39, 40, 41, 42, 43, 44, 80, 81, 1999,
        2000, 2001, Integer.MAX_VALUE
    };

    public static void main(String[] args) {
        for (int row = 0; row < 1500; row++) {
            GlulxFloats object = new GlulxFloats();
            Model model = new Model();
            boolean wild = row % 3 == 0;
            for (int call = 0; call < 512; call++) {
                one(object, model, wild);
            }
        }
        CHECK.end();
    }

    private static int bound() {
        return CHECK.below(8) == 0 ? (int) CHECK.number() : BOUNDS[CHECK.below(BOUNDS.length)];
    }

    /** A number from 0 up to most, or in some calls any other. */
    private static int upTo(int most, boolean wild) {
        return CHECK.below(wild ? 2 : 25) == 0 ? bound() : CHECK.below(most + 1);
    }

    private static int word() {
        return CHECK.below(2) == 0 ? (int) CHECK.number() : ActTest.EDGES[CHECK.below(ActTest.EDGES.length)];
    }

    private static long wide() {
        return CHECK.below(2) == 0 ? CHECK.number() : WideTest.EDGES[CHECK.below(WideTest.EDGES.length)];
    }

    private static int code(boolean wild) {
        if (CHECK.below(wild ? 3 : 25) == 0) {
            return bound();
        }
        int n = CHECK.below(40);
        return n < 24 ? n : n < 32 ? n + 6 : 40 + n % 4;
    }

    private static void one(GlulxFloats object, Model model, boolean wild) {
        int kind = CHECK.below(40);
        if (kind < 8) {
            number(kind, object, wild);
        } else if (kind == 8) {
            // Rarely, so that the STEPS grow to 40 and beyond.
            forget(object, model);
        } else if (kind < 16) {
            words(object, model, wild);
        } else if (kind < 22) {
            printing(object, model, wild);
        } else if (kind < 32) {
            int[] n = {code(wild), 0, upTo(15, wild), upTo(15, wild), upTo(15, wild)};
            n[1] = upTo(n[0] >= 30 && n[0] != 41 && n[0] != 42 ? Math.min(39, model.count + 1) : 15, wild);
            String call = "step(" + n[0] + ", " + n[1] + ", " + n[2] + ", " + n[3] + ", " + n[4] + ")";
            CHECK.due(call, object.step(n[0], n[1], n[2], n[3], n[4]), model.step(n));
        } else if (kind < 36) {
            int from = upTo(Math.min(39, model.count), wild);
            int most = 1 + upTo(CHECK.below(2) * 30 + 3, wild);
            CHECK.due("run(" + from + ", " + most + ")", object.run(from, most), model.run(from, most));
        } else {
            CHECK.due("next()", object.next(), model.next);
        }
    }

    private static void forget(GlulxFloats object, Model model) {
        int which = CHECK.below(12);
        if (which == 0) {
            CHECK.due("clear()", object.clear(), model.count);
            model.clear();
        } else if (which < 3) {
            CHECK.due("drop()", object.drop(), model.count);
            model.count = 0;
        }
    }

    private static void words(GlulxFloats object, Model model, boolean wild) {
        int k = upTo(15, wild);
        boolean there = k >= 0 && k <= 15;
        if (CHECK.below(2) == 0) {
            CHECK.due("word(" + k + ")", wordAnswer(object, k), there ? model.words[k] : NO_WORD);
            return;
        }
        int v = word();
        CHECK.due("set(" + k + ", " + v + ")", setAnswer(object, k, v), there ? model.words[k] : NO_WORD);
        if (there) {
            model.words[k] = v;
        }
    }

    private static void printing(GlulxFloats object, Model model, boolean wild) {
        if (CHECK.below(3) == 0) {
            int a = word();
            int places = upTo(40, wild);
            boolean fits = places >= 0 && places <= 40;
            if (fits) {
                model.printed = PrintTest.want(a, places);
            }
            CHECK.due("print(" + a + ", " + places + ")", object.print(a, places),
                fits ? model.printed.length() : OUTSIDE);
            return;
        }
        int i = upTo(model.printed.length(), wild);
        boolean there = i >= 0 && i < model.printed.length();
        CHECK.due("at(" + i + ")", object.at(i), there ? model.printed.charAt(i) : NONE);
    }

    private static void number(int kind, GlulxFloats object, boolean wild) {
        int act = upTo(23, wild);
        int test = upTo(7, wild);
        int a = word();
        int b = word();
        int c = word();
        long wideA = wide();
        long wideB = wide();
        long wideC = wide();
        switch (kind) {
            case 0:
                CHECK.due("act(" + act + ", " + a + ", " + b + ", " + c + ")", actAnswer(object, act, a, b, c),
                    act < 0 || act > 23 ? ILLEGAL : ActTest.want(act, a, b, c));
                break;
            case 1:
                CHECK.due("wide(" + act + ", " + wideA + ", " + wideB + ", " + wideC + ")",
                    wideAnswer(object, act, wideA, wideB, wideC),
                    act < 0 || act > 23 ? ILLEGAL : WideTest.want(act, wideA, wideB, wideC));
                break;
            case 2:
                CHECK.due("test(" + test + ", " + a + ", " + b + ", " + c + ")",
                    testAnswer(object, test, a, b, c),
                    test < 0 || test > 7 ? ILLEGAL : CompareTest.wants(a, b, c)[test] ? 1 : 0);
                break;
            case 3:
                CHECK.due("wideTest(" + test + ", " + wideA + ", " + wideB + ", " + wideC + ")",
                    wideTestAnswer(object, test, wideA, wideB, wideC),
                    test < 0 || test > 7 ? ILLEGAL : CompareTest.wideWants(wideA, wideB, wideC)[test] ? 1 : 0);
                break;
            case 4:
                CHECK.due("widen(" + a + ")", object.widen(a), Double.doubleToLongBits(Float.intBitsToFloat(a)));
                break;
            case 5:
                CHECK.due("narrow(" + wideA + ")", object.narrow(wideA),
                    Float.floatToIntBits((float) Double.longBitsToDouble(wideA)));
                break;
            case 6:
                boolean high = a < 0;
                CHECK.due("half(" + wideA + ", " + high + ")", object.half(wideA, high),
                    (int) (high ? wideA >> 32 : wideA));
                break;
            default:
                CHECK.due("join(" + a + ", " + b + ")", object.join(a, b),
                    a * (1L << 32) + Integer.toUnsignedLong(b));
                break;
        }
    }

    private static long thrown(RuntimeException e) {
        if (e.getClass() == IllegalArgumentException.class) {
            return ILLEGAL;
        }
        return e.getClass() == ArrayIndexOutOfBoundsException.class ? NO_WORD : OTHER;
    }

    private static long actAnswer(GlulxFloats object, int act, int a, int b, int c) {
        try {
            return object.act(act, a, b, c);
        } catch (RuntimeException e) {
            return thrown(e);
        }
    }

    private static long wideAnswer(GlulxFloats object, int act, long a, long b, long c) {
        try {
            return object.wide(act, a, b, c);
        } catch (RuntimeException e) {
            return thrown(e);
        }
    }

    private static long testAnswer(GlulxFloats object, int test, int a, int b, int by) {
        try {
            return object.test(test, a, b, by);
        } catch (RuntimeException e) {
            return thrown(e);
        }
    }

    private static long wideTestAnswer(GlulxFloats object, int test, long a, long b, long by) {
        try {
            return object.wideTest(test, a, b, by);
        } catch (RuntimeException e) {
            return thrown(e);
        }
    }

    private static long setAnswer(GlulxFloats object, int k, int v) {
        try {
            return object.set(k, v);
        } catch (RuntimeException e) {
            return thrown(e);
        }
    }

    private static long wordAnswer(GlulxFloats object, int k) {
        try {
            return object.word(k);
        } catch (RuntimeException e) {
            return thrown(e);
        }
    }

    /** The state of an object as the document tells it. */
    private static final class Model {
        int[] words = new int[16];
        final int[][] steps = new int[40][];
        int count;
        int next = NONE;
        String printed = "";

        void clear() {
            words = new int[16];
            count = 0;
            next = NONE;
            printed = "";
        }

        int step(int[] n) {
            if (!fits(n)) {
                return OUTSIDE;
            }
            if (count == 40) {
                return ROOM;
            }
            steps[count] = n;
            count++;
            return count;
        }

        private static boolean fits(int[] n) {
            int code = n[0];
            boolean act = code >= 0 && code <= 23;
            boolean jump = code >= 30 && code <= 37;
            if (!act && !jump && (code < 40 || code > 43)) {
                return false;
            }
            boolean t = code == 40 || n[1] >= 0 && n[1] <= (jump || code == 43 ? 39 : 15);
            boolean x = code == 40 || code == 41 || code == 43 || isWord(n[2]);
            boolean y = code == 40 || code == 41 || code == 43 || isWord(n[3]);
            boolean z = code >= 40 || isWord(n[4]);
            return t && x && y && z;
        }

        private static boolean isWord(int k) {
            return k >= 0 && k <= 15;
        }

        int run(int from, int most) {
            if (from < 0 || from > 39 || most < 1 || most > 2000) {
                return OUTSIDE;
            }
            next = from < count ? from : NONE;
            int done = 0;
            while (done < most && next != NONE) {
                int[] n = steps[next];
                int to = n[0] == 40 ? count : n[0] == 43 ? n[1] : next + 1;
                if (n[0] >= 30 && n[0] <= 37
                    && CompareTest.wants(words[n[2]], words[n[3]], words[n[4]])[n[0] - 30]) {
                    to = n[1];
                }
                change(n);
                next = to < count ? to : NONE;
                done++;
            }
            return done;
        }

        private void change(int[] n) {
            if (n[0] <= 23) {
                words[n[1]] = ActTest.want(n[0], words[n[2]], words[n[3]], words[n[4]]);
            } else if (n[0] == 41) {
                words[n[1]] = n[2];
            } else if (n[0] == 42) {
                words[n[1]] = words[n[2]] + words[n[3]];
            }
        }
    }
}
