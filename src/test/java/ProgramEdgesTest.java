/** "4 A PROGRAM", and promises 1 and 12 to 18: each edge of WORDS, STEPS and runs. */
public final class ProgramEdgesTest {
    private static final Check CHECK = new Check("ProgramEdgesTest");
    private static final int OUTSIDE = GlulxFloats.OUTSIDE, ROOM = GlulxFloats.ROOM, NONE = GlulxFloats.NONE;
    private static final int LEAST = Integer.MIN_VALUE, GREATEST = Integer.MAX_VALUE;
    private static final int ONE = 0x3F800000, TWO = 0x40000000, INFINITE = 0x7F800000, NAN = 0x7FC00000;
    private static final int HALT = 40, PUT = 41, ADD = 42, GO = 43;
    private static final int[] NO_CODES = {LEAST, -1, 24, 25, 29, 38, 39, 44, 45, 255, GREATEST};
    private static final int[] ANY = {LEAST, -1, 0, 15, 16, 39, 40, GREATEST};
    private static final int[] OUTSIDE_WORDS = {LEAST, -1, 16, 39, GREATEST};
    private static final int[] OUTSIDE_STEPS = {LEAST, -1, 40, 41, GREATEST};

    public static void main(String[] args) {
        newObject();
        wordsAtFirst();
        set();
        word();
        fortySteps();
        noSuchCode();
        targetWord();
        targetStep();
        numbersOfActs();
        numbersOfJumps();
        numbersOfHalt();
        numbersOfPut();
        numbersOfAdd();
        numbersOfGo();
        room();
        acts();
        jumps();
        halt();
        put();
        add();
        go();
        endsBehindTheLast();
        endsWhereNoneIs();
        drop();
        from();
        most();
        done();
        empty();
        nextBeforeAnyRun();
        nextAfterRun();
        nextAfterOtherCalls();
        clear();
        calls();
        CHECK.end();
    }

    private static void isNew(GlulxFloats object) {
        for (int k = 0; k < 16; k++) {
            CHECK.due("word(" + k + ")", object.word(k), 0);
        }
        CHECK.due("at(-1)", object.at(-1), NONE);
        CHECK.due("at(0)", object.at(0), NONE);
        CHECK.due("at(1)", object.at(1), NONE);
        CHECK.due("next()", object.next(), NONE);
        CHECK.due("drop()", object.drop(), 0);
        CHECK.due("run(0, 2000)", object.run(0, 2000), 0);
        CHECK.due("run(39, 1)", object.run(39, 1), 0);
        CHECK.due("step()", object.step(GO, 0, 0, 0, 0), 1);
    }

    private static void newObject() {
        CHECK.sentence("GlulxFloats(): WORDS 0, no STEPS, nothing PRINTED.");
        isNew(new GlulxFloats());
        CHECK.due("clear() of a new object", new GlulxFloats().clear(), 0);
        GlulxFloats used = new GlulxFloats();
        used.set(0, 1);
        used.print(ONE, 1);
        used.step(GO, 0, 0, 0, 0);
        used.run(0, 1);
        isNew(new GlulxFloats());
        CHECK.due("the other object's WORD", used.word(0), 1);
        CHECK.due("the other object's byte", used.at(0), '1');
        CHECK.due("the other object's STEPS", used.drop(), 1);
    }

    private static void wordsAtFirst() {
        CHECK.sentence("WORDS 0 to 15, 0 at first");
        GlulxFloats object = new GlulxFloats();
        for (int k = 0; k <= 15; k++) {
            CHECK.due("word(" + k + ")", object.word(k), 0);
        }
        CHECK.due("set(0) at first", object.set(0, 5), 0);
        CHECK.due("set(15) at first", object.set(15, 6), 0);
    }

    private static void set() {
        CHECK.sentence("WORD k becomes v: what it was.");
        GlulxFloats object = new GlulxFloats();
        int[] values = {0, 1, -1, LEAST, GREATEST, NAN, 0x7F800001, 0xFF800001, INFINITE};
        for (int k = 0; k <= 15; k += 15) {
            int was = 0;
            for (int v : values) {
                CHECK.due("set(" + k + ", " + v + ")", object.set(k, v), was);
                CHECK.due("word(" + k + ")", object.word(k), v);
                was = v;
            }
        }
        CHECK.due("word(1), never set", object.word(1), 0);
        CHECK.due("word(14), never set", object.word(14), 0);

        CHECK.sentence("set: ArrayIndexOutOfBoundsException: there is no such WORD.");
        for (int k : OUTSIDE_WORDS) {
            CHECK.due("set(" + k + ", 7) throws", thrownBySet(object, k), 1);
        }
        for (int k = 0; k <= 15; k++) {
            CHECK.due("word(" + k + ") after refusals", object.word(k), k == 0 || k == 15 ? INFINITE : 0);
            CHECK.due("set(" + k + ", 7) throws", thrownBySet(object, k), 0);
        }
    }

    private static void word() {
        CHECK.sentence("word: ArrayIndexOutOfBoundsException: there is no such WORD.");
        GlulxFloats object = new GlulxFloats();
        for (int k : OUTSIDE_WORDS) {
            CHECK.due("word(" + k + ") throws", thrownByWord(object, k), 1);
        }
        for (int k = 0; k <= 15; k++) {
            CHECK.due("word(" + k + ") throws", thrownByWord(object, k), 0);
        }
    }

    /** 0: nothing, 1: what is due, 2: another exception. */
    private static int thrownBySet(GlulxFloats object, int k) {
        try {
            object.set(k, 7);
            return 0;
        } catch (RuntimeException e) {
            return e.getClass() == ArrayIndexOutOfBoundsException.class ? 1 : 2;
        }
    }

    private static int thrownByWord(GlulxFloats object, int k) {
        try {
            object.word(k);
            return 0;
        } catch (RuntimeException e) {
            return e.getClass() == ArrayIndexOutOfBoundsException.class ? 1 : 2;
        }
    }

    private static void fortySteps() {
        CHECK.sentence("STEPS, 40 at most");
        GlulxFloats object = new GlulxFloats();
        for (int i = 1; i <= 40; i++) {
            CHECK.due("the STEP " + i, object.step(PUT, 0, i, 0, 0), i);
        }
        CHECK.due("the 41st", object.step(PUT, 0, 41, 0, 0), ROOM);
        CHECK.due("run of all", object.run(0, 2000), 40);
        CHECK.due("word(0)", object.word(0), 40);
        for (int i = 0; i < 40; i++) {
            CHECK.due("run(" + i + ", 1)", object.run(i, 1), 1);
            CHECK.due("word(0)", object.word(0), i + 1);
            CHECK.due("next()", object.next(), i == 39 ? NONE : i + 1);
        }
    }

    private static void stepIs(int code, int t, int x, int y, int z, boolean fits) {
        GlulxFloats object = new GlulxFloats();
        String call = "step(" + code + ", " + t + ", " + x + ", " + y + ", " + z + ")";
        CHECK.due(call, object.step(code, t, x, y, z), fits ? 1 : OUTSIDE);
        CHECK.due("drop() after " + call, object.drop(), fits ? 1 : 0);
    }

    private static void noSuchCode() {
        CHECK.sentence("OUTSIDE: the code");
        for (int code : NO_CODES) {
            stepIs(code, 0, 0, 0, 0, false);
        }
        for (int code = 0; code <= 23; code++) {
            stepIs(code, 0, 0, 0, 0, true);
        }
        for (int code = 30; code <= 37; code++) {
            stepIs(code, 0, 0, 0, 0, true);
        }
        for (int code = HALT; code <= GO; code++) {
            stepIs(code, 0, 0, 0, 0, true);
        }
    }

    private static void targetWord() {
        CHECK.sentence("t: 0 to 15");
        for (int code = 0; code <= ADD; code++) {
            if (code <= 23 || code == PUT || code == ADD) {
                stepIs(code, 0, 0, 0, 0, true);
                stepIs(code, 15, 0, 0, 0, true);
                for (int t : OUTSIDE_WORDS) {
                    stepIs(code, t, 0, 0, 0, false);
                }
            }
        }
    }

    private static void targetStep() {
        CHECK.sentence("t: (of 30 to 37, 43: 0 to 39)");
        for (int code = 30; code <= GO; code++) {
            if (code <= 37 || code == GO) {
                stepIs(code, 0, 0, 0, 0, true);
                stepIs(code, 16, 0, 0, 0, true);
                stepIs(code, 39, 0, 0, 0, true);
                for (int t : OUTSIDE_STEPS) {
                    stepIs(code, t, 0, 0, 0, false);
                }
            }
        }
    }

    private static void threeWords(int code) {
        stepIs(code, 0, 15, 15, 15, true);
        for (int n : OUTSIDE_WORDS) {
            stepIs(code, 0, n, 0, 0, false);
            stepIs(code, 0, 0, n, 0, false);
            stepIs(code, 0, 0, 0, n, false);
            stepIs(code, 0, n, n, n, false);
        }
    }

    private static void numbersOfActs() {
        CHECK.sentence("x, y, z: 0 to 15 (0 to 23)");
        for (int code = 0; code <= 23; code++) {
            threeWords(code);
        }
    }

    private static void numbersOfJumps() {
        CHECK.sentence("x, y, z: 0 to 15 (30 to 37)");
        for (int code = 30; code <= 37; code++) {
            threeWords(code);
        }
    }

    private static void numbersOfHalt() {
        CHECK.sentence("(of 40 any) .. (of 40 .. all any)");
        for (int n : ANY) {
            stepIs(HALT, n, 0, 0, 0, true);
            stepIs(HALT, 0, n, 0, 0, true);
            stepIs(HALT, 0, 0, n, 0, true);
            stepIs(HALT, 0, 0, 0, n, true);
            stepIs(HALT, n, n, n, n, true);
        }
    }

    private static void numbersOfPut() {
        CHECK.sentence("(of 41 x any; .. of 41, 42 z any, of 41 y, too)");
        for (int n : ANY) {
            stepIs(PUT, 15, n, 0, 0, true);
            stepIs(PUT, 15, 0, n, 0, true);
            stepIs(PUT, 15, 0, 0, n, true);
            stepIs(PUT, 15, n, n, n, true);
            stepIs(PUT, 16, n, n, n, false);
        }
    }

    private static void numbersOfAdd() {
        CHECK.sentence("x, y .. 0 to 15 (of .. 42 z any)");
        stepIs(ADD, 15, 15, 15, 0, true);
        for (int n : ANY) {
            stepIs(ADD, 15, 15, 15, n, true);
            stepIs(ADD, 15, 16, 15, n, false);
            stepIs(ADD, 15, 15, 16, n, false);
        }
        for (int n : OUTSIDE_WORDS) {
            stepIs(ADD, 0, n, 0, 0, false);
            stepIs(ADD, 0, 0, n, 0, false);
        }
    }

    private static void numbersOfGo() {
        CHECK.sentence("(of .. 43 all any)");
        for (int n : ANY) {
            stepIs(GO, 39, n, 0, 0, true);
            stepIs(GO, 39, 0, n, 0, true);
            stepIs(GO, 39, 0, 0, n, true);
            stepIs(GO, 39, n, n, n, true);
            stepIs(GO, 40, n, n, n, false);
        }
    }

    private static void room() {
        CHECK.sentence("A STEP: how many there are. .. ROOM.");
        GlulxFloats object = new GlulxFloats();
        for (int i = 1; i <= 39; i++) {
            CHECK.due("the STEP " + i, object.step(HALT, 0, 0, 0, 0), i);
            CHECK.due("a refused one counts as none", object.step(HALT - 1, 0, 0, 0, 0), OUTSIDE);
        }
        CHECK.due("the 40th", object.step(PUT, 3, 77, 0, 0), 40);
        CHECK.due("the 41st", object.step(PUT, 3, 78, 0, 0), ROOM);
        CHECK.due("the 41st again", object.step(HALT, 0, 0, 0, 0), ROOM);
        CHECK.due("the 41st, of a code that there is not", object.step(24, 0, 0, 0, 0), OUTSIDE);
        CHECK.due("the 41st, with a t that there is not", object.step(GO, 40, 0, 0, 0), OUTSIDE);
        CHECK.due("run of the 40th", object.run(39, 2000), 1);
        CHECK.due("word(3)", object.word(3), 77);
        CHECK.due("drop()", object.drop(), 40);
        CHECK.due("room again", object.step(HALT, 0, 0, 0, 0), 1);
        object.clear();
        CHECK.due("room again", object.step(HALT, 0, 0, 0, 0), 1);
    }

    private static void acts() {
        CHECK.sentence("0 to 23: WORD t becomes what the ACT of WORDS x, y, z is.");
        // Of 3, 2 and 1; 14 takes 2's lowest six bits, which are 0, and 15 all its bits as a whole number.
        int[] wants = {0x40A00000, ONE, 0x40C00000, 0x3FC00000, ONE, ONE, 0x3FDDB3D7, 0x40400000, 0x40400000,
            0x40400000, TWO, 0x40400000, 0x40400000, 0xC0400000, ONE, INFINITE, 0x40400001, 0x40400000,
            0x34800000, 1, 0x40E00000, 0x4E808000, 3, 3};
        for (int act = 0; act <= 23; act++) {
            GlulxFloats object = new GlulxFloats();
            object.set(13, 0x40400000);
            object.set(14, TWO);
            object.set(15, ONE);
            object.step(act, 0, 13, 14, 15);
            object.step(act, 15, 13, 14, 15);
            object.step(act, 13, 13, 14, 14);
            CHECK.due("run(0, 1), code " + act, object.run(0, 1), 1);
            CHECK.due("it goes on, code " + act, object.next(), 1);
            int want = wants[act];
            CHECK.due("word(0), code " + act, object.word(0), want);
            CHECK.due("word(13) stays", object.word(13), 0x40400000);
            CHECK.due("word(14) stays", object.word(14), TWO);
            CHECK.due("word(15) stays", object.word(15), ONE);
            CHECK.due("run(1, 1), code " + act, object.run(1, 1), 1);
            CHECK.due("WORD z becomes it, code " + act, object.word(15), want);
            CHECK.due("it goes on, code " + act, object.next(), 2);
            CHECK.due("run(2, 1), code " + act, object.run(2, 1), 1);
            CHECK.due("it ENDED, code " + act, object.next(), NONE);
            CHECK.due("WORD x becomes it, code " + act, object.word(13), act == 20 ? 0x41000000 : want);
        }
    }

    private static void jumps() {
        CHECK.sentence("30 to 37: to STEP t, if TEST 0 to 7 of WORDS x, y, with WORD z, holds.");
        // TEST, a, b, BY, and whether it holds.
        int[][] rows = {
            {0, ONE, TWO, ONE, 1}, {0, ONE, TWO, 0x3F7FFFFF, 0}, {0, INFINITE, INFINITE, NAN, 0},
            {1, ONE, TWO, ONE, 0}, {1, ONE, TWO, 0x3F7FFFFF, 1}, {1, NAN, NAN, INFINITE, 1},
            {2, ONE, TWO, NAN, 1}, {2, ONE, ONE, TWO, 0}, {2, TWO, ONE, TWO, 0}, {2, NAN, ONE, 0, 0},
            {3, ONE, TWO, NAN, 1}, {3, ONE, ONE, TWO, 1}, {3, TWO, ONE, TWO, 0}, {3, LEAST, 0, 0, 1},
            {4, TWO, ONE, NAN, 1}, {4, ONE, ONE, TWO, 0}, {4, ONE, TWO, TWO, 0}, {4, 0, LEAST, 0, 0},
            {5, TWO, ONE, NAN, 1}, {5, ONE, ONE, TWO, 1}, {5, ONE, TWO, TWO, 0}, {5, NAN, NAN, 0, 0},
            {6, NAN, ONE, ONE, 1}, {6, -1, ONE, ONE, 1}, {6, INFINITE, NAN, NAN, 0},
            {7, INFINITE, ONE, ONE, 1}, {7, 0xFF800000, ONE, ONE, 1}, {7, 0x7F7FFFFF, INFINITE, INFINITE, 0},
            {7, NAN, INFINITE, INFINITE, 0}
        };
        for (int[] row : rows) {
            GlulxFloats object = new GlulxFloats();
            object.set(0, row[1]);
            object.set(14, row[2]);
            object.set(15, row[3]);
            for (int i = 0; i < 39; i++) {
                object.step(30 + row[0], i < 3 ? 39 : 3, 0, 14, 15);
            }
            object.step(HALT, 0, 0, 0, 0);
            String told = "code " + (30 + row[0]) + " of " + row[1] + ", " + row[2] + ", " + row[3];
            CHECK.due("run(0, 1), " + told, object.run(0, 1), 1);
            CHECK.due("next(), forward, " + told, object.next(), row[4] == 1 ? 39 : 1);
            CHECK.due("run(37, 1), " + told, object.run(37, 1), 1);
            CHECK.due("next(), back, " + told, object.next(), row[4] == 1 ? 3 : 38);
            CHECK.due("run(3, 5), " + told, object.run(3, 5), 5);
            CHECK.due("next(), to itself, " + told, object.next(), row[4] == 1 ? 3 : 8);
            CHECK.due("the WORDS stay", object.word(0), row[1]);
        }
    }

    private static void halt() {
        CHECK.sentence("40 HALT. .. it ENDS at HALT .. how many were done (HALT is one)");
        GlulxFloats object = new GlulxFloats();
        object.step(HALT, LEAST, GREATEST, -1, 16);
        object.step(PUT, 0, 5, 0, 0);
        object.step(HALT, 0, 0, 0, 0);
        object.step(PUT, 0, 6, 0, 0);
        CHECK.due("run(0, 1)", object.run(0, 1), 1);
        CHECK.due("next()", object.next(), NONE);
        CHECK.due("run(0, 2000)", object.run(0, 2000), 1);
        CHECK.due("next()", object.next(), NONE);
        CHECK.due("word(0)", object.word(0), 0);
        CHECK.due("run(1, 2)", object.run(1, 2), 2);
        CHECK.due("next()", object.next(), NONE);
        CHECK.due("word(0)", object.word(0), 5);
        CHECK.due("run(1, 1), just before HALT", object.run(1, 1), 1);
        CHECK.due("next()", object.next(), 2);
        CHECK.due("run(2, 3)", object.run(2, 3), 1);
        CHECK.due("word(0), behind HALT", object.word(0), 5);
    }

    private static void put() {
        CHECK.sentence("41 WORD t becomes x.");
        int[] values = {LEAST, -1, 0, 15, 16, GREATEST, 0x7F800001, 0xFFC00001};
        for (int v : values) {
            GlulxFloats object = new GlulxFloats();
            object.set(0, 1);
            object.step(PUT, 0, v, 3, 4);
            object.step(PUT, 15, v, LEAST, GREATEST);
            CHECK.due("run(0, 2000)", object.run(0, 2000), 2);
            CHECK.due("word(0)", object.word(0), v);
            CHECK.due("word(15)", object.word(15), v);
            CHECK.due("word(3)", object.word(3), 0);
        }
    }

    private static void add() {
        CHECK.sentence("42 WORD t becomes WORD x and WORD y, as whole numbers, wrapping.");
        int[][] rows = {
            {0, 0, 0}, {1, 2, 3}, {-1, 1, 0}, {GREATEST, 1, LEAST}, {LEAST, -1, GREATEST}, {LEAST, LEAST, 0},
            {GREATEST, GREATEST, -2}, {GREATEST, LEAST, -1}, {NAN, NAN, 0xFF800000}, {INFINITE, 1, 0x7F800001},
            {ONE, ONE, 0x7F000000}, {6, 3, 9}, {LEAST, 0, LEAST}
        };
        for (int[] row : rows) {
            GlulxFloats object = new GlulxFloats();
            object.set(1, row[0]);
            object.set(15, row[1]);
            object.step(ADD, 0, 1, 15, LEAST);
            object.step(ADD, 14, 15, 1, 3);
            object.step(ADD, 15, 1, 15, GREATEST);
            CHECK.due("run(0, 2000)", object.run(0, 2000), 3);
            CHECK.due(row[0] + " and " + row[1], object.word(0), row[2]);
            CHECK.due(row[1] + " and " + row[0], object.word(14), row[2]);
            CHECK.due("into WORD y", object.word(15), row[2]);
            CHECK.due("word(1) stays", object.word(1), row[0]);
        }
        GlulxFloats object = new GlulxFloats();
        object.set(2, 0x40000001);
        object.step(ADD, 2, 2, 2, 0);
        object.step(GO, 0, 0, 0, 0);
        object.run(0, 5);
        CHECK.due("a WORD and itself, three times", object.word(2), 8);
    }

    private static void go() {
        CHECK.sentence("43 to STEP t.");
        GlulxFloats object = new GlulxFloats();
        object.step(GO, 39, LEAST, GREATEST, 16);
        for (int i = 1; i < 39; i++) {
            object.step(HALT, 0, 0, 0, 0);
        }
        object.step(GO, 0, -1, -1, -1);
        CHECK.due("run(0, 1)", object.run(0, 1), 1);
        CHECK.due("next()", object.next(), 39);
        CHECK.due("run(0, 2)", object.run(0, 2), 2);
        CHECK.due("next()", object.next(), 0);
        CHECK.due("run(39, 2000)", object.run(39, 2000), 2000);
        CHECK.due("next()", object.next(), 39);
        object.drop();
        object.step(GO, 0, 0, 0, 0);
        CHECK.due("to itself", object.run(0, 7), 7);
        CHECK.due("next()", object.next(), 0);
    }

    private static void endsBehindTheLast() {
        CHECK.sentence("It goes on from step to step; it ENDS .. behind the last one");
        GlulxFloats object = new GlulxFloats();
        object.step(PUT, 0, 1, 0, 0);
        object.step(PUT, 1, 1, 0, 0);
        object.step(PUT, 2, 1, 0, 0);
        CHECK.due("run(0, 2)", object.run(0, 2), 2);
        CHECK.due("next()", object.next(), 2);
        CHECK.due("word(2), not yet", object.word(2), 0);
        CHECK.due("run(0, 3), just to the end", object.run(0, 3), 3);
        CHECK.due("next()", object.next(), NONE);
        CHECK.due("word(2)", object.word(2), 1);
        CHECK.due("run(0, 4)", object.run(0, 4), 3);
        CHECK.due("next()", object.next(), NONE);
        CHECK.due("run(2, 2000)", object.run(2, 2000), 1);
        CHECK.due("next()", object.next(), NONE);
        object.step(31, 0, 0, 0, 0);
        CHECK.due("a jump that does not hold, as the last", object.run(3, 1), 1);
        CHECK.due("next()", object.next(), NONE);
    }

    private static void endsWhereNoneIs() {
        CHECK.sentence("it ENDS .. at one that there is not");
        int[] gone = {3, 4, 39};
        for (int t : gone) {
            GlulxFloats object = new GlulxFloats();
            object.step(GO, t, 0, 0, 0);
            object.step(30, t, 0, 0, 0);
            object.step(PUT, 0, 9, 0, 0);
            CHECK.due("43 to " + t + ", most 1", object.run(0, 1), 1);
            CHECK.due("next()", object.next(), NONE);
            CHECK.due("43 to " + t + ", most 2000", object.run(0, 2000), 1);
            CHECK.due("next()", object.next(), NONE);
            CHECK.due("30 to " + t + ", most 1", object.run(1, 1), 1);
            CHECK.due("next()", object.next(), NONE);
            CHECK.due("30 to " + t + ", most 2000", object.run(1, 2000), 1);
            CHECK.due("next()", object.next(), NONE);
            CHECK.due("run from " + t, object.run(t, 5), 0);
            CHECK.due("next()", object.next(), NONE);
            CHECK.due("word(0)", object.word(0), 0);
        }
        GlulxFloats object = new GlulxFloats();
        object.step(GO, 1, 0, 0, 0);
        CHECK.due("to the STEP behind the last", object.run(0, 5), 1);
        object.step(HALT, 0, 0, 0, 0);
        CHECK.due("there it is now", object.run(0, 5), 2);
    }

    private static void drop() {
        CHECK.sentence("No STEPS: how many there were.");
        GlulxFloats object = new GlulxFloats();
        CHECK.due("drop() of none", object.drop(), 0);
        object.set(15, 8);
        object.print(TWO, 1);
        object.step(PUT, 0, 4, 0, 0);
        CHECK.due("drop() of 1", object.drop(), 1);
        CHECK.due("drop() again", object.drop(), 0);
        CHECK.due("run of none", object.run(0, 2000), 0);
        CHECK.due("word(0)", object.word(0), 0);
        CHECK.due("the WORDS stay", object.word(15), 8);
        CHECK.due("what was PRINTED stays", object.at(2), '0');
        for (int i = 0; i < 40; i++) {
            object.step(HALT, 0, 0, 0, 0);
        }
        CHECK.due("drop() of 40", object.drop(), 40);
        CHECK.due("a STEP after drop()", object.step(PUT, 1, 6, 0, 0), 1);
        CHECK.due("run of it alone", object.run(0, 2000), 1);
        CHECK.due("run from an old one", object.run(1, 2000), 0);
        CHECK.due("word(1)", object.word(1), 6);
    }

    private static GlulxFloats full() {
        GlulxFloats object = new GlulxFloats();
        object.set(1, 1);
        for (int i = 0; i < 39; i++) {
            object.step(ADD, 0, 0, 1, 0);
        }
        object.step(GO, 0, 0, 0, 0);
        return object;
    }

    private static void from() {
        CHECK.sentence("The PROGRAM goes on from a STEP (0 to 39) .. OUTSIDE.");
        GlulxFloats object = full();
        CHECK.due("run(0, 1)", object.run(0, 1), 1);
        CHECK.due("next()", object.next(), 1);
        for (int from : OUTSIDE_STEPS) {
            CHECK.due("run(" + from + ", 1)", object.run(from, 1), OUTSIDE);
            CHECK.due("run(" + from + ", 2000)", object.run(from, 2000), OUTSIDE);
            CHECK.due("word(0)", object.word(0), 1);
            CHECK.due("next()", object.next(), 1);
        }
        CHECK.due("run(38, 1)", object.run(38, 1), 1);
        CHECK.due("next()", object.next(), 39);
        CHECK.due("run(39, 1)", object.run(39, 1), 1);
        CHECK.due("next()", object.next(), 0);
        CHECK.due("word(0)", object.word(0), 2);
        for (int from : OUTSIDE_STEPS) {
            CHECK.due("run(" + from + ", 1), no STEPS", new GlulxFloats().run(from, 1), OUTSIDE);
        }
    }

    private static void most() {
        CHECK.sentence("up to so many (1 to 2000) .. OUTSIDE.");
        int[] wrong = {LEAST, -1, 0, 2001, 2002, GREATEST};
        GlulxFloats object = full();
        CHECK.due("run(5, 2)", object.run(5, 2), 2);
        for (int most : wrong) {
            CHECK.due("run(0, " + most + ")", object.run(0, most), OUTSIDE);
            CHECK.due("run(39, " + most + ")", object.run(39, most), OUTSIDE);
            CHECK.due("run(40, " + most + ")", object.run(40, most), OUTSIDE);
            CHECK.due("word(0)", object.word(0), 2);
            CHECK.due("next()", object.next(), 7);
            CHECK.due("run(0, " + most + "), no STEPS", new GlulxFloats().run(0, most), OUTSIDE);
        }
        CHECK.due("run(0, 1999)", object.run(0, 1999), 1999);
        CHECK.due("next()", object.next(), 39);
        CHECK.due("word(0)", object.word(0), 2 + 1999 - 49);
        CHECK.due("run(0, 2000)", object.run(0, 2000), 2000);
        CHECK.due("next()", object.next(), 0);
        CHECK.due("word(0)", object.word(0), 2 + 1999 - 49 + 2000 - 50);
    }

    private static void done() {
        CHECK.sentence("how many were done");
        GlulxFloats object = full();
        for (int most = 1; most <= 100; most++) {
            CHECK.due("run(0, " + most + ")", object.run(0, most), most);
            CHECK.due("next()", object.next(), most % 40);
        }
        CHECK.due("run(0, 3)", object.run(0, 3), 3);
        CHECK.due("on from there", object.run(object.next(), 4), 4);
        CHECK.due("next()", object.next(), 7);
    }

    private static void empty() {
        CHECK.sentence("The PROGRAM goes on .. behind the last one (no STEPS)");
        GlulxFloats object = new GlulxFloats();
        for (int from = 0; from <= 39; from++) {
            CHECK.due("run(" + from + ", 1)", object.run(from, 1), 0);
            CHECK.due("next()", object.next(), NONE);
            CHECK.due("run(" + from + ", 2000)", object.run(from, 2000), 0);
        }
    }

    private static void nextBeforeAnyRun() {
        CHECK.sentence("NONE: .. or there was none");
        GlulxFloats object = new GlulxFloats();
        CHECK.due("next() at first", object.next(), NONE);
        object.step(GO, 0, 0, 0, 0);
        CHECK.due("next() with a STEP", object.next(), NONE);
        object.run(40, 1);
        object.run(0, 0);
        object.run(0, 2001);
        CHECK.due("next() after refused run()s", object.next(), NONE);
        object.drop();
        CHECK.due("next() after drop()", object.next(), NONE);
    }

    private static void nextAfterRun() {
        CHECK.sentence("The STEP at which it would go on behind the latest run(); NONE: it ENDED");
        GlulxFloats object = full();
        object.run(0, 10);
        CHECK.due("cut off by the count", object.next(), 10);
        CHECK.due("asked again", object.next(), 10);
        object.run(38, 1);
        CHECK.due("before the last", object.next(), 39);
        object.run(38, 2);
        CHECK.due("back at the first", object.next(), 0);
        object.drop();
        object.step(HALT, 0, 0, 0, 0);
        object.step(GO, 2, 0, 0, 0);
        object.step(GO, 3, 0, 0, 0);
        object.run(1, 1);
        CHECK.due("cut off by the count", object.next(), 2);
        object.run(0, 1);
        CHECK.due("ENDED at HALT", object.next(), NONE);
        object.run(1, 1);
        object.run(1, 2);
        CHECK.due("ENDED behind the last", object.next(), NONE);
        object.run(1, 1);
        object.run(39, 1);
        CHECK.due("ENDED at one that there is not", object.next(), NONE);
    }

    private static void nextAfterOtherCalls() {
        CHECK.sentence("The STEP at which it would go on behind the latest run() (after other calls)");
        GlulxFloats object = full();
        object.run(0, 10);
        object.set(3, 9);
        object.print(ONE, 0);
        object.act(0, ONE, ONE, ONE);
        object.step(HALT, 0, 0, 0, 0);
        object.run(40, 1);
        object.run(0, 2001);
        CHECK.due("next() after other calls", object.next(), 10);
        object.drop();
        CHECK.due("next() after drop()", object.next(), 10);
        object.step(HALT, 0, 0, 0, 0);
        CHECK.due("next() after drop() and a STEP", object.next(), 10);
        object.clear();
        CHECK.due("next() after clear()", object.next(), NONE);
        object.step(HALT, 0, 0, 0, 0);
        object.run(0, 1);
        object.step(HALT, 0, 0, 0, 0);
        CHECK.due("it ENDED, although a STEP came", object.next(), NONE);
        object.drop();
        CHECK.due("it ENDED, and drop()", object.next(), NONE);
    }

    private static void clear() {
        CHECK.sentence("All is as at the beginning: how many STEPS there were.");
        GlulxFloats object = new GlulxFloats();
        CHECK.due("clear() at the beginning", object.clear(), 0);
        isNew(object);
        CHECK.due("clear() of 1", object.clear(), 1);
        CHECK.due("clear() again", object.clear(), 0);
        for (int k = 0; k <= 15; k++) {
            object.set(k, LEAST + k);
        }
        for (int i = 0; i < 40; i++) {
            object.step(GO, 7, 0, 0, 0);
        }
        object.print(0xFF7FFFFF, 40);
        object.run(0, 2000);
        CHECK.due("next()", object.next(), 7);
        CHECK.due("clear() of 40", object.clear(), 40);
        isNew(object);
        object.drop();
        object.set(4, 4);
        CHECK.due("clear() after drop()", object.clear(), 0);
        isNew(object);
    }

    private static void calls() {
        CHECK.sentence("An object is used for at most 512 calls after it has been made");
        GlulxFloats object = new GlulxFloats();
        object.set(1, 1);
        for (int i = 0; i < 40; i++) {
            object.step(i < 39 ? ADD : GO, 0, 0, 1, 0);
        }
        for (int i = 1; i <= 468; i++) {
            CHECK.due("run(0, 2000)", object.run(0, 2000), 2000);
        }
        CHECK.due("the 510th call", object.next(), 0);
        CHECK.due("the 511th call", object.word(0), 468 * 1950);
        CHECK.due("the 512th call", object.clear(), 40);
    }
}
