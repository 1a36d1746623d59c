/** Promises 14 (run), 15 (steps) and 16 (scratch). */
public final class RunTest {
    private static final Answers ANSWERS = new Answers();
    private static final long RETURN = Code.of(0x16, 0);
    private static final long MOST = 0xffffffffL;
    private static final long[] NUMBERS = {
        0, 1, 2, 3, 31, 32, 33, 63, 64, 0xffff, 0x10001, 0x7fffffffL, 0x80000000L, 0x80000001L, MOST - 1, MOST};

    public static void main(String[] args) {
        ends();
        loads();
        copies();
        arithmetic();
        divisionByZero();
        negation();
        skips();
        conditionals();
        everyRunBeginsAnew();
        theRecordIsReadAsItIs();
        noRunOfAFaultyProgram();
        stepsOfTheLatestRun();
        scratchOfTheLatestRun();
        scratchOutside();
        storedOnTheWayTakenAlone();
        rulesAreNotInTheProgram();
        ANSWERS.finish();
    }

    private static void due(String what, long want, long... program) {
        ANSWERS.due(what, want, Code.filter(program).run());
    }

    private static void ends() {
        for (long k : NUMBERS) {
            due("06 " + k, k, Code.of(0x06, k));
            due("16 with " + k, k, Code.of(0x00, k), Code.of(0x16, 5));
        }
        due("A begins as 0", 0, RETURN);
        due("X begins as 0", 0, Code.of(0x87, 0), RETURN);
        due("06 with distances", 7, Code.of(0x06, 255, 255, 7));
    }

    private static void loads() {
        due("00", 9, Code.of(0x00, 9), RETURN);
        due("01", 9, Code.of(0x01, 9), Code.of(0x87, 0), RETURN);
        due("01 is not A", 0, Code.of(0x01, 9), RETURN);
        due("80", 64, Code.of(0x80, 5), RETURN);
        due("81", 64, Code.of(0x81, 5), Code.of(0x87, 0), RETURN);
        due("81 is not A", 0, Code.of(0x81, 5), RETURN);
        for (int i = 0; i < 16; i++) {
            due("02 and 60", 9, Code.of(0x00, 9), Code.of(0x02, i), Code.of(0x00, 1), Code.of(0x60, i), RETURN);
            due("03 and 60", 9, Code.of(0x01, 9), Code.of(0x03, i), Code.of(0x60, i), RETURN);
            due("02 and 61", 9, Code.of(0x00, 9), Code.of(0x02, i), Code.of(0x00, 1), Code.of(0x61, i),
                Code.of(0x87, 0), RETURN);
        }
    }

    private static void copies() {
        due("07", 5, Code.of(0x00, 5), Code.of(0x07, 0), Code.of(0x00, 1), Code.of(0x87, 0), RETURN);
        due("07 leaves A", 5, Code.of(0x00, 5), Code.of(0x07, 0), RETURN);
        due("87 leaves X", 6, Code.of(0x01, 6), Code.of(0x87, 0), Code.of(0x00, 1), Code.of(0x87, 0), RETURN);
    }

    private static void arithmetic() {
        int[] codes = {0x04, 0x14, 0x24, 0x34, 0x44, 0x54, 0xa4, 0x64, 0x74};
        for (int code : codes) {
            for (long a : NUMBERS) {
                for (long y : NUMBERS) {
                    boolean shifts = code == 0x64 || code == 0x74;
                    long want = result(code, a, y);
                    String what = Integer.toHexString(code) + " on " + a + " and " + y;
                    if (!(code == 0x34 && y == 0) && !(shifts && y > 31)) {
                        due(what, want, Code.of(0x00, a), Code.of(code, y), RETURN);
                    }
                    due(what + " as X", want, Code.of(0x01, y), Code.of(0x00, a), Code.of(code + 8, 77), RETURN);
                }
            }
        }
    }

    private static long result(int code, long a, long y) {
        switch (code) {
            case 0x04: return (a + y) % (MOST + 1);
            case 0x14: return (a - y + MOST + 1) % (MOST + 1);
            case 0x24: return java.math.BigInteger.valueOf(a).multiply(java.math.BigInteger.valueOf(y))
                .mod(java.math.BigInteger.ONE.shiftLeft(32)).longValueExact();
            case 0x34: return y == 0 ? 0 : a / y;
            case 0x44: return a | y;
            case 0x54: return a & y;
            case 0xa4: return a ^ y;
            case 0x64: return (a << y % 32) % (MOST + 1);
            default: return a >> y % 32;
        }
    }

    private static void divisionByZero() {
        CallFilter x = Code.filter(Code.of(0x00, 8), Code.of(0x02, 2), Code.of(0x3c, 5), Code.of(0x02, 3),
            Code.of(0x06, 9));
        ANSWERS.due("divided by X = 0", 0, x.run());
        ANSWERS.due("steps", 3, x.steps());
        ANSWERS.due("stored before", 8, x.scratch(2));
        ANSWERS.due("not stored behind", -1, x.scratch(3));
        due("0 divided by 0", 0, Code.of(0x3c, 5), Code.of(0x06, 9));
        due("X is not 0", 9, Code.of(0x01, 1), Code.of(0x3c, 0), Code.of(0x06, 9));
    }

    private static void negation() {
        for (long a : NUMBERS) {
            due("84 on " + a, a == 0 ? 0 : MOST + 1 - a, Code.of(0x00, a), Code.of(0x84, 3), RETURN);
        }
    }

    private static void skips() {
        due("skip 0", 1, Code.of(0x05, 0), Code.of(0x06, 1), Code.of(0x06, 2), Code.of(0x06, 3));
        due("skip 1", 2, Code.of(0x05, 1), Code.of(0x06, 1), Code.of(0x06, 2), Code.of(0x06, 3));
        due("skip 2", 3, Code.of(0x05, 2), Code.of(0x06, 1), Code.of(0x06, 2), Code.of(0x06, 3));
        due("skip with X", 2, Code.of(0x01, 2), Code.of(0x05, 1, 2, 1), Code.of(0x06, 1), Code.of(0x06, 2),
            Code.of(0x06, 3));
    }

    private static void conditionals() {
        for (int code : new int[] {0x15, 0x25, 0x35, 0x45}) {
            for (long a : NUMBERS) {
                for (long y : NUMBERS) {
                    long want = holds(code, a, y) ? 11 : 12;
                    String what = Integer.toHexString(code) + " on " + a + " and " + y;
                    due(what, want, Code.of(0x00, a), Code.of(code, 1, 2, y), Code.of(0x06, 10),
                        Code.of(0x06, 11), Code.of(0x06, 12));
                    due(what + " as X", want, Code.of(0x01, y), Code.of(0x00, a), Code.of(code + 8, 1, 2, 77),
                        Code.of(0x06, 10), Code.of(0x06, 11), Code.of(0x06, 12));
                }
            }
        }
    }

    private static boolean holds(int code, long a, long y) {
        switch (code) {
            case 0x15: return a == y;
            case 0x25: return a > y;
            case 0x35: return a >= y;
            default: return (a & y) != 0;
        }
    }

    private static void everyRunBeginsAnew() {
        CallFilter x = Code.filter(Code.of(0x04, 3), Code.of(0x0c, 0), Code.of(0x07, 0), RETURN);
        for (int i = 0; i < 3; i++) {
            ANSWERS.due("run " + i, 3, x.run());
            ANSWERS.due("steps " + i, 4, x.steps());
        }
    }

    private static void theRecordIsReadAsItIs() {
        CallFilter x = new CallFilter(5);
        x.word(1, 6);
        x.word(0, -1);
        ANSWERS.due("a foreign record", MOST, Code.wordOf(x, 0));
        ANSWERS.due("its architecture", 6, Code.wordOf(x, 1));
        x.word(1, 8);
        ANSWERS.due("changed", 8, x.run());
        x.argument(5, 7L << 32);
        ANSWERS.due("the last word", 7, Code.wordOf(x, 15));
    }

    private static void noRunOfAFaultyProgram() {
        due("empty", -1);
        due("CODE", -1, Code.of(0x06, 1), Code.of(0x08, 0), RETURN);
        due("OPERAND", -1, Code.of(0x06, 1), Code.of(0x34, 0), RETURN);
        due("JUMP", -1, Code.of(0x06, 1), Code.of(0x05, 9), RETURN);
        due("END", -1, Code.of(0x06, 1), Code.of(0x00, 1));
        due("UNSET", -1, Code.of(0x15, 1, 0, 0), Code.of(0x60, 1), RETURN);
    }

    private static void stepsOfTheLatestRun() {
        CallFilter x = Code.filter(Code.of(0x20, 0), Code.of(0x15, 1, 0, 4), Code.of(0x00, 2), RETURN);
        ANSWERS.due("before a run", 0, x.steps());
        ANSWERS.due("run", 2, x.run());
        ANSWERS.due("the longer way", 4, x.steps());
        x.word(0, 4);
        ANSWERS.due("the record changes", 4, x.steps());
        ANSWERS.due("run", 4, x.run());
        ANSWERS.due("the shorter way", 3, x.steps());
        x.cut(1);
        x.check();
        ANSWERS.due("a cut leaves it", 3, x.steps());
        ANSWERS.due("run", -1, x.run());
        ANSWERS.due("refused", 0, x.steps());
        x.put(RETURN);
        ANSWERS.due("mended, not run", 0, x.steps());
        x.run();
        ANSWERS.due("run again", 3, x.steps());
    }

    private static void scratchOfTheLatestRun() {
        CallFilter x = Code.filter(Code.of(0x00, MOST), Code.of(0x02, 0), Code.of(0x03, 15), Code.of(0x00, 7),
            Code.of(0x02, 3), Code.of(0x00, 8), Code.of(0x02, 3), RETURN);
        ANSWERS.due("before a run", -1, x.scratch(0));
        x.run();
        ANSWERS.due("without sign", MOST, x.scratch(0));
        ANSWERS.due("0 as well", 0, x.scratch(15));
        ANSWERS.due("the later store", 8, x.scratch(3));
        ANSWERS.due("not stored", -1, x.scratch(1));
        x.cut(1);
        x.word(0, 4);
        ANSWERS.due("what changes later leaves it", 8, x.scratch(3));
        x.run();
        for (int i = 0; i < 16; i++) {
            ANSWERS.due("a refused run " + i, -1, x.scratch(i));
        }
        Code.replace(x, Code.of(0x02, 1), RETURN);
        x.run();
        ANSWERS.due("of an earlier run", -1, x.scratch(3));
        ANSWERS.due("of this run", 0, x.scratch(1));
        Code.replace(x, RETURN);
        x.run();
        for (int i = 0; i < 16; i++) {
            ANSWERS.due("of an earlier run " + i, -1, x.scratch(i));
        }
    }

    private static void scratchOutside() {
        CallFilter x = new CallFilter(0);
        for (int i = 0; i < 16; i++) {
            x.put(Code.of(0x00, i + 100));
            x.put(Code.of(0x02, i));
        }
        x.put(RETURN);
        x.run();
        for (int i = 0; i < 16; i++) {
            ANSWERS.due("scratch " + i, i + 100, x.scratch(i));
        }
        for (int i : new int[] {-1, 16, 17, 32, -16, -32, Integer.MIN_VALUE, Integer.MAX_VALUE}) {
            ANSWERS.due("scratch " + i, -1, x.scratch(i));
        }
    }

    private static void storedOnTheWayTakenAlone() {
        CallFilter x = Code.filter(Code.of(0x20, 0), Code.of(0x15, 0, 2, 1), Code.of(0x02, 1), RETURN,
            Code.of(0x02, 2), RETURN);
        x.word(0, 1);
        x.run();
        ANSWERS.due("stored", 1, x.scratch(1));
        ANSWERS.due("on the other way", -1, x.scratch(2));
        x.word(0, 5);
        x.run();
        ANSWERS.due("on the other way", -1, x.scratch(1));
        ANSWERS.due("stored", 5, x.scratch(2));
    }

    private static void rulesAreNotInTheProgram() {
        CallFilter x = new CallFilter(0);
        x.rule(0, 9, 3, 1);
        ANSWERS.due("length", 0, x.length());
        ANSWERS.due("check", 100, x.check());
        ANSWERS.due("run", -1, x.run());
        x.put(Code.of(0x06, 4));
        ANSWERS.due("run", 4, x.run());
        ANSWERS.due("decide", 0x50001L, x.decide());
        ANSWERS.due("steps stay", 1, x.steps());
    }
}
