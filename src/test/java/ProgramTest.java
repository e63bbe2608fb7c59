/** Promises 1 and 12 to 18: WORDS, STEPS and runs. */
public final class ProgramTest {
    private static final Check CHECK = new Check("ProgramTest");
    private static final int OUTSIDE = GlulxFloats.OUTSIDE, ROOM = GlulxFloats.ROOM, NONE = GlulxFloats.NONE;
    private static final int LEAST = Integer.MIN_VALUE, GREATEST = Integer.MAX_VALUE;
    private static final int ONE = 0x3F800000;

    public static void main(String[] args) {
        newObject();
        words();
        stepBounds();
        fullRow();
        dropping();
        endings();
        jumps();
        adding();
        runBounds();
        lastStepInTime();
        clearing();
        for (int i = 0; i < 4000; i++) {
            randomProgram();
        }
        CHECK.end();
    }

    private static void isNew(String when, GlulxFloats object) {
        for (int k = 0; k < 16; k++) {
            CHECK.due(when + ": word(" + k + ")", object.word(k), 0);
        }
        CHECK.due(when + ": at(0)", object.at(0), NONE);
        CHECK.due(when + ": next()", object.next(), NONE);
        CHECK.due(when + ": drop()", object.drop(), 0);
        CHECK.due(when + ": run(0, 1)", object.run(0, 1), 0);
    }

    private static void newObject() {
        isNew("new", new GlulxFloats());
    }

    private static void words() {
        GlulxFloats object = new GlulxFloats();
        for (int k = 0; k < 16; k++) {
            CHECK.due("set(" + k + ")", object.set(k, 1000 + k), 0);
        }
        for (int k = 0; k < 16; k++) {
            CHECK.due("word(" + k + ")", object.word(k), 1000 + k);
            CHECK.due("set(" + k + ") again", object.set(k, LEAST + k), 1000 + k);
            CHECK.due("word(" + k + ") again", object.word(k), LEAST + k);
        }
        int[] wrong = {-1, 16, 17, 40, LEAST, GREATEST};
        for (int k : wrong) {
            CHECK.due("set(" + k + ") throws", thrownBySet(object, k), 1);
            CHECK.due("word(" + k + ") throws", thrownByWord(object, k), 1);
        }
        CHECK.due("word(15) after refusals", object.word(15), LEAST + 15);
    }

    private static int thrownBySet(GlulxFloats object, int k) {
        try {
            object.set(k, 5);
            return 0;
        } catch (ArrayIndexOutOfBoundsException e) {
            return 1;
        }
    }

    private static int thrownByWord(GlulxFloats object, int k) {
        try {
            object.word(k);
            return 0;
        } catch (ArrayIndexOutOfBoundsException e) {
            return 1;
        }
    }

    private static boolean isCode(int code) {
        return code >= 0 && code <= 23 || code >= 30 && code <= 37 || code >= 40 && code <= 43;
    }

    private static int most(int code, int place) {
        boolean jumps = code >= 30 && code <= 37 || code == 43;
        if (code == 40) {
            return -1;
        }
        if (place == 0) {
            return jumps ? 39 : 15;
        }
        if (code == 43 || code == 41 || code == 42 && place == 3) {
            return -1;
        }
        return 15;
    }

    private static void stepBounds() {
        int[] codes = {LEAST, -1, 24, 29, 38, 39, 44, 45, 255, GREATEST};
        for (int code : codes) {
            CHECK.due("step(" + code + ", 0, 0, 0, 0)", new GlulxFloats().step(code, 0, 0, 0, 0), OUTSIDE);
        }
        int[] values = {LEAST, -1, 0, 1, 15, 16, 39, 40, GREATEST};
        for (int code = -2; code < 50; code++) {
            for (int place = 0; place < 4; place++) {
                for (int value : values) {
                    int[] n = {0, 0, 0, 0};
                    n[place] = value;
                    boolean inside = most(code, place) < 0 || value >= 0 && value <= most(code, place);
                    GlulxFloats object = new GlulxFloats();
                    String call = "step(" + code + ", " + n[0] + ", " + n[1] + ", " + n[2] + ", " + n[3] + ")";
                    CHECK.due(call, object.step(code, n[0], n[1], n[2], n[3]),
                        isCode(code) && inside ? 1 : OUTSIDE);
                    CHECK.due("drop() after " + call, object.drop(), isCode(code) && inside ? 1 : 0);
                }
            }
        }
    }

    private static void fullRow() {
        GlulxFloats object = new GlulxFloats();
        for (int i = 1; i <= 40; i++) {
            CHECK.due("step " + i, object.step(41, 0, i, 0, 0), i);
        }
        CHECK.due("step 41", object.step(40, 0, 0, 0, 0), ROOM);
        CHECK.due("step 41, OUTSIDE before ROOM", object.step(24, 0, 0, 0, 0), OUTSIDE);
        CHECK.due("run of all", object.run(0, 2000), 40);
        CHECK.due("its word", object.word(0), 40);
        CHECK.due("run of the last", object.run(39, 1), 1);
        CHECK.due("next() behind the last", object.next(), NONE);
        CHECK.due("run of half", object.run(10, 20), 20);
        CHECK.due("its word", object.word(0), 30);
        CHECK.due("next()", object.next(), 30);
        CHECK.due("drop()", object.drop(), 40);
        CHECK.due("step after drop()", object.step(40, 0, 0, 0, 0), 1);
    }

    private static void dropping() {
        GlulxFloats object = new GlulxFloats();
        object.set(3, 9);
        object.print(ONE, 0);
        object.step(41, 2, 77, 0, 0);
        object.step(43, 0, 0, 0, 0);
        object.run(0, 3);
        CHECK.due("drop()", object.drop(), 2);
        CHECK.due("drop() again", object.drop(), 0);
        CHECK.due("word after drop()", object.word(2), 77);
        CHECK.due("word after drop()", object.word(3), 9);
        CHECK.due("at after drop()", object.at(0), '1');
        CHECK.due("next() tells of the latest run, after drop()", object.next(), 1);
        CHECK.due("run after drop()", object.run(0, 5), 0);
        CHECK.due("next() after that", object.next(), NONE);
    }

    private static void endings() {
        GlulxFloats object = new GlulxFloats();
        object.step(41, 0, 5, 0, 0);
        object.step(40, LEAST, GREATEST, -1, 99);
        object.step(41, 0, 6, 0, 0);
        object.step(43, 39, 0, 0, 0);
        CHECK.due("run to HALT", object.run(0, 2000), 2);
        CHECK.due("word at HALT", object.word(0), 5);
        CHECK.due("next() at HALT", object.next(), NONE);
        CHECK.due("run up to HALT", object.run(0, 1), 1);
        CHECK.due("next() before HALT", object.next(), 1);
        CHECK.due("run of HALT alone", object.run(1, 1), 1);
        CHECK.due("next() behind HALT", object.next(), NONE);
        CHECK.due("run to a STEP that there is not", object.run(2, 2000), 2);
        CHECK.due("word", object.word(0), 6);
        CHECK.due("next()", object.next(), NONE);
        CHECK.due("run just to a STEP that there is not", object.run(3, 1), 1);
        CHECK.due("next()", object.next(), NONE);
        CHECK.due("run(2, 1)", object.run(2, 1), 1);
        CHECK.due("next()", object.next(), 3);
    }

    private static void jumps() {
        for (int test = 0; test < 8; test++) {
            for (int a : ActTest.EDGES) {
                GlulxFloats object = new GlulxFloats();
                int b = ActTest.EDGES[CHECK.below(ActTest.EDGES.length)];
                int by = ActTest.EDGES[CHECK.below(ActTest.EDGES.length)];
                object.set(1, a);
                object.set(2, b);
                object.set(3, by);
                object.step(30 + test, 2, 1, 2, 3);
                object.step(40, 0, 0, 0, 0);
                object.step(40, 0, 0, 0, 0);
                CHECK.due("a jump is one", object.run(0, 1), 1);
                CHECK.due("jump by " + test + " of " + a + ", " + b + ", " + by, object.next(),
                    1 + CHECK.any().test(test, a, b, by));
            }
        }
    }

    private static void adding() {
        GlulxFloats object = new GlulxFloats();
        object.step(41, 1, GREATEST, -5, 99);
        object.step(41, 2, 2, LEAST, -1);
        object.step(42, 15, 1, 2, 99);
        object.step(42, 1, 1, 1, -1);
        object.step(21, 4, 2, 0, 0);
        object.step(20, 5, 4, 4, 4);
        CHECK.due("run", object.run(0, 2000), 6);
        CHECK.due("wrapping", object.word(15), LEAST + 1);
        CHECK.due("a WORD and itself", object.word(1), -2);
        CHECK.due("an ACT of one WORD", object.word(4), 0x40000000);
        CHECK.due("an ACT of three WORDS", object.word(5), 0x40C00000);
    }

    private static void runBounds() {
        GlulxFloats object = new GlulxFloats();
        object.step(42, 0, 0, 1, 0);
        object.step(43, 0, 0, 0, 0);
        object.set(1, 1);
        CHECK.due("run(0, 1999)", object.run(0, 1999), 1999);
        CHECK.due("word(0)", object.word(0), 1000);
        CHECK.due("next()", object.next(), 1);
        int[][] wrong = {{-1, 1}, {40, 1}, {LEAST, 1}, {GREATEST, 1}, {0, 0}, {0, -1}, {0, 2001}, {0, LEAST},
            {0, GREATEST}, {40, 0}};
        for (int[] n : wrong) {
            CHECK.due("run(" + n[0] + ", " + n[1] + ")", object.run(n[0], n[1]), OUTSIDE);
            CHECK.due("word(0) after it", object.word(0), 1000);
            CHECK.due("next() after it", object.next(), 1);
        }
        CHECK.due("run(0, 2000)", object.run(0, 2000), 2000);
        CHECK.due("word(0)", object.word(0), 2000);
        CHECK.due("run(39, 2000)", object.run(39, 2000), 0);
        CHECK.due("next()", object.next(), NONE);
    }

    /** It has ENDED behind the last STEP, although a STEP comes there later. */
    private static void lastStepInTime() {
        GlulxFloats object = new GlulxFloats();
        object.step(41, 0, 1, 0, 0);
        CHECK.due("run(0, 1)", object.run(0, 1), 1);
        CHECK.due("next()", object.next(), NONE);
        object.step(41, 0, 2, 0, 0);
        CHECK.due("next() with a STEP more", object.next(), NONE);
    }

    private static void clearing() {
        GlulxFloats object = new GlulxFloats();
        CHECK.due("clear() of nothing", object.clear(), 0);
        for (int k = 0; k < 16; k++) {
            object.set(k, k + 1);
        }
        object.print(ONE, 7);
        object.step(43, 0, 0, 0, 0);
        object.step(40, 0, 0, 0, 0);
        object.step(40, 0, 0, 0, 0);
        object.run(0, 7);
        CHECK.due("clear()", object.clear(), 3);
        CHECK.due("clear() again", object.clear(), 0);
        isNew("cleared", object);
    }

    private static void randomProgram() {
        GlulxFloats object = new GlulxFloats();
        Model model = new Model();
        for (int k = 0; k < 16; k++) {
            int v = CHECK.below(3) == 0 ? CHECK.below(5) : ActTest.EDGES[CHECK.below(ActTest.EDGES.length)];
            object.set(k, v);
            model.words[k] = v;
        }
        model.count = 1 + CHECK.below(40);
        for (int i = 0; i < model.count; i++) {
            int code = randomCode();
            boolean jump = code >= 30 && code != 41 && code != 42;
            int[] n = {code, CHECK.below(jump ? Math.min(40, model.count + 2) : 16), CHECK.below(16),
                CHECK.below(16), CHECK.below(16)};
            model.steps[i] = n;
            CHECK.due("step", object.step(n[0], n[1], n[2], n[3], n[4]), i + 1);
        }
        for (int i = 0; i < 5; i++) {
            int from = CHECK.below(Math.min(40, model.count + 1));
            int most = 1 + CHECK.below(i == 0 ? 200 : 10);
            CHECK.due("run(" + from + ", " + most + ")", object.run(from, most), model.go(from, most));
            CHECK.due("next()", object.next(), model.place);
            for (int k = 0; k < 16; k++) {
                CHECK.due("word(" + k + ")", object.word(k), model.words[k]);
            }
        }
    }

    private static int randomCode() {
        int n = CHECK.below(40);
        if (n < 24) {
            return n;
        }
        return n < 32 ? n + 6 : 40 + (n - 31) % 4;
    }

    /** A PROGRAM as the document tells it, with the ACTS and TESTS that the other tests judge. */
    private static final class Model {
        final int[] words = new int[16];
        final int[][] steps = new int[40][];
        int count;
        int place;

        int go(int from, int most) {
            place = from;
            for (int done = 0; done < most; done++) {
                if (place >= count) {
                    place = NONE;
                    return done;
                }
                int[] n = steps[place];
                if (n[0] == 40) {
                    place = NONE;
                    return done + 1;
                }
                place = follow(n);
            }
            if (place >= count) {
                place = NONE;
            }
            return most;
        }

        private int follow(int[] n) {
            if (n[0] < 24) {
                words[n[1]] = CHECK.any().act(n[0], words[n[2]], words[n[3]], words[n[4]]);
            } else if (n[0] < 38) {
                int holds = CHECK.any().test(n[0] - 30, words[n[2]], words[n[3]], words[n[4]]);
                return holds == 1 ? n[1] : place + 1;
            } else if (n[0] == 41) {
                words[n[1]] = n[2];
            } else if (n[0] == 42) {
                words[n[1]] = words[n[2]] + words[n[3]];
            } else {
                return n[1];
            }
            return place + 1;
        }
    }
}
