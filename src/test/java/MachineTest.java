import java.math.BigInteger;

/** Terms: PROGRAM, its instructions and its machine. Over each test its sentence. */
public final class MachineTest {
    private static final Answers ANSWERS = new Answers();
    private static final long RETURN = Code.of(0x16, 0);
    private static final long X_TO_A = Code.of(0x87, 0);
    private static final long MOST = 0xffffffffL;
    private static final long HIGH = 0x80000000L;
    private static final long[] NUMBERS = {
        0, 1, 2, 3, 31, 32, 33, 63, 64, 0xffff, 0x10001, HIGH - 1, HIGH, HIGH + 1, MOST - 1, MOST};

    public static void main(String[] args) {
        sixtyFourInstructions();
        theBitsOfTheCode();
        theBitsOfTheDistances();
        theBitsOfTheNumber();
        registersHaveNoSign();
        sumsKeep32Bits();
        differencesKeep32Bits();
        productsKeep32Bits();
        leftShiftsKeep32Bits();
        runBeginsWithZeros();
        everyRunBeginsAnew();
        theNextOneIsDone();
        anInstructionChangesWhatItSaysAlone();

        loadsOfNumbers();
        loadsOfTheRecord();
        loadsAndStoresOfScratch();
        copies();
        negation();
        arithmeticWithK();
        arithmeticWithX();
        divisionIsRoundedDown();
        rightShiftsBringZeros();
        shiftsByTheRemainderOfX();
        divisionByXZero();
        skips();
        conditionalsWithK();
        conditionalsWithX();
        conditionalsTakeTheirOwnDistance();
        ends();
        ANSWERS.finish();
    }

    private static void due(String what, long want, long... program) {
        ANSWERS.due(what, want, Code.filter(program).run());
    }

    /** With k as it is, and with k in X. */
    private static void dueOfBoth(int code, long a, long y, long want) {
        String what = Integer.toHexString(code) + " on " + a + " and " + y;
        due(what, want, Code.of(0x00, a), Code.of(code, y), RETURN);
        dueOfX(code, a, y, want);
    }

    private static void dueOfX(int code, long a, long y, long want) {
        String what = Integer.toHexString(code + 8) + " on " + a + " and X = " + y;
        due(what, want, Code.of(0x01, y), Code.of(0x00, a), Code.of(code + 8, 77), RETURN);
    }

    // "PROGRAM: at most 64 instructions, numbered from 0"
    private static void sixtyFourInstructions() {
        long[] program = new long[65];
        java.util.Arrays.fill(program, Code.of(0x04, 2));
        program[63] = RETURN;
        program[64] = Code.of(0x06, 7);
        CallFilter x = Code.filter(program);
        ANSWERS.due("run()", 126, x.run());
        ANSWERS.due("steps()", 64, x.steps());
        x.cut(1);
        x.put(Code.of(0xffff, 0));
        ANSWERS.due("the number of the last", 263, x.check());
        ANSWERS.due("the number of the first", 200, Code.filter(Code.of(0xffff, 0)).check());
    }

    // "its bits 0 .. 15 are the code"
    private static void theBitsOfTheCode() {
        for (int bit = 0; bit < 64; bit++) {
            CallFilter x = Code.filter(RETURN ^ 1L << bit, RETURN);
            // 16 with bit 4 turned over is 06, with bit 1 turned over it is 14.
            boolean isCode = bit > 15 || bit == 1 || bit == 4;
            ANSWERS.due("16 with bit " + bit + " turned over", isCode ? 0 : 200, x.check());
        }
    }

    // "16 .. 23 the distance jt, 24 .. 31 the distance jf"
    private static void theBitsOfTheDistances() {
        for (int bit = 0; bit < 8; bit++) {
            for (int first : new int[] {16, 24}) {
                CallFilter x = new CallFilter(0);
                x.put(Code.of(0x15, first == 16 ? 0 : 1) | 1L << first + bit);
                for (int i = 1; i < 64; i++) {
                    x.put(Code.of(0x06, 100 + i));
                }
                long landing = 1 + (1L << bit);
                ANSWERS.due("bit " + (first + bit), landing < 64 ? 100 + landing : CallFilter.NONE, x.run());
                ANSWERS.due("bit " + (first + bit), landing < 64 ? 0 : 400, x.check());
            }
        }
    }

    // "32 .. 63 the number k; all without sign"
    private static void theBitsOfTheNumber() {
        for (int bit = 32; bit < 64; bit++) {
            due("06 with bit " + bit, 1L << bit - 32, 0x06 | 1L << bit);
            due("00 with bit " + bit, 1L << bit - 32, 1L << bit, RETURN);
        }
        due("all bits but those of the code", MOST, -1L << 16 | 0x06);
    }

    // "registers A and X and a SCRATCH of 16 words, of 32 bits each, without sign"
    private static void registersHaveNoSign() {
        for (long v : new long[] {HIGH - 1, HIGH, MOST}) {
            due("A", v, Code.of(0x00, v), RETURN);
            due("X", v, Code.of(0x01, v), X_TO_A, RETURN);
            for (int i = 0; i < 16; i++) {
                CallFilter x = Code.filter(Code.of(0x00, v), Code.of(0x02, i), Code.of(0x00, 0), Code.of(0x60, i),
                    RETURN);
                ANSWERS.due("scratch word " + i + " loaded", v, x.run());
                ANSWERS.due("scratch(" + i + ")", v, x.scratch(i));
            }
        }
        due("A > k", 1, Code.of(0x00, HIGH), Code.of(0x25, 0, 1, HIGH - 1), Code.of(0x06, 1), Code.of(0x06, 2));
    }

    // "sums .. keep the lowest 32 bits"
    private static void sumsKeep32Bits() {
        dueOfBoth(0x04, MOST - 1, 1, MOST);
        dueOfBoth(0x04, MOST, 1, 0);
        dueOfBoth(0x04, 1, MOST, 0);
        dueOfBoth(0x04, MOST, MOST, MOST - 1);
        dueOfBoth(0x04, HIGH - 1, 1, HIGH);
        dueOfBoth(0x04, HIGH, HIGH, 0);
    }

    // "differences .. keep the lowest 32 bits"
    private static void differencesKeep32Bits() {
        dueOfBoth(0x14, 1, 1, 0);
        dueOfBoth(0x14, 0, 1, MOST);
        dueOfBoth(0x14, 0, MOST, 1);
        dueOfBoth(0x14, HIGH, 1, HIGH - 1);
        dueOfBoth(0x14, 0, HIGH, HIGH);
    }

    // "products .. keep the lowest 32 bits"
    private static void productsKeep32Bits() {
        dueOfBoth(0x24, 0xffff, 0x10001, MOST);
        dueOfBoth(0x24, 0x10000, 0x10000, 0);
        dueOfBoth(0x24, 0x10001, 0x10001, 0x20001);
        dueOfBoth(0x24, HIGH, 2, 0);
        dueOfBoth(0x24, HIGH, 3, HIGH);
        dueOfBoth(0x24, MOST, MOST, 1);
        dueOfBoth(0x24, MOST, 0, 0);
    }

    // "left shifts keep the lowest 32 bits"
    private static void leftShiftsKeep32Bits() {
        dueOfBoth(0x64, MOST, 0, MOST);
        dueOfBoth(0x64, MOST, 1, MOST - 1);
        dueOfBoth(0x64, MOST, 31, HIGH);
        dueOfBoth(0x64, 1, 31, HIGH);
        dueOfBoth(0x64, 2, 31, 0);
        dueOfBoth(0x64, HIGH, 1, 0);
    }

    // "A run begins at instruction 0 with A = X = 0."
    private static void runBeginsWithZeros() {
        due("A", 0, RETURN);
        due("X", 0, Code.of(0x00, 5), X_TO_A, RETURN);
        due("instruction 0", 1, Code.of(0x06, 1), Code.of(0x06, 2));
    }

    // "A run begins at instruction 0 with A = X = 0.": each run
    private static void everyRunBeginsAnew() {
        CallFilter x = Code.filter(Code.of(0x04, 3), Code.of(0x0c, 0), Code.of(0x07, 0), RETURN);
        for (int i = 0; i < 3; i++) {
            ANSWERS.due("run " + i, 3, x.run());
            ANSWERS.due("steps " + i, 4, x.steps());
        }
    }

    // "After an instruction the next one is done, if nothing else is said."
    private static void theNextOneIsDone() {
        for (int code : Code.ALL) {
            boolean jumpsOrEnds = code % 8 == 5 || code % 8 == 6;
            if (!jumpsOrEnds) {
                CallFilter x = Code.filter(Code.of(0x02, 4), Code.of(0x01, 1), Code.of(code, 2, 2, 4),
                    Code.of(0x06, 1), Code.of(0x06, 2), Code.of(0x06, 3));
                ANSWERS.due("after " + Integer.toHexString(code), 1, x.run());
                ANSWERS.due("its steps", 4, x.steps());
            }
        }
    }

    // The codes say what becomes of A, of X or of one scratch word: the others stay.
    private static void anInstructionChangesWhatItSaysAlone() {
        for (int code : Code.ALL) {
            boolean jumps = code % 8 == 5;
            boolean ends = code % 8 == 6;
            CallFilter x = Code.filter(Code.of(0x00, 7), Code.of(0x02, 4), Code.of(0x02, 5), Code.of(0x01, 6),
                Code.of(0x00, 5), Code.of(code, jumps ? 0 : 4), Code.of(0x02, 14), Code.of(0x03, 15), RETURN);
            x.word(1, 9);
            x.run();
            String after = " after " + Integer.toHexString(code);
            ANSWERS.due("A" + after, ends ? CallFilter.NONE : aAfter(code), x.scratch(14));
            ANSWERS.due("X" + after, ends ? CallFilter.NONE : xAfter(code), x.scratch(15));
            ANSWERS.due("scratch word 4" + after, code == 0x02 ? 5 : code == 0x03 ? 6 : 7, x.scratch(4));
            ANSWERS.due("scratch word 5" + after, 7, x.scratch(5));
            ANSWERS.due("scratch word 6" + after, CallFilter.NONE, x.scratch(6));
        }
    }

    /** With A = 5, X = 6, k = 4, word 1 = 9 and scratch word 4 = 7. */
    private static long aAfter(int code) {
        switch (code) {
            case 0x00: return 4;
            case 0x20: return 9;
            case 0x60: return 7;
            case 0x80: return 64;
            case 0x87: return 6;
            case 0x84: return MOST - 4;
            default: return code % 8 == 4 ? result(code & 0xf7, 5, (code & 8) == 0 ? 4 : 6) : 5;
        }
    }

    private static long xAfter(int code) {
        switch (code) {
            case 0x01: return 4;
            case 0x61: return 7;
            case 0x81: return 64;
            case 0x07: return 5;
            default: return 6;
        }
    }

    // "00 A = k", "01 X = k", "80 A = 64", "81 X = 64"
    private static void loadsOfNumbers() {
        for (long k : NUMBERS) {
            due("00", k, Code.of(0x00, k), RETURN);
            due("01", k, Code.of(0x01, k), X_TO_A, RETURN);
            due("80", 64, Code.of(0x80, k), RETURN);
            due("81", 64, Code.of(0x81, k), X_TO_A, RETURN);
        }
    }

    // "20 A = word k / 4 of the record"
    private static void loadsOfTheRecord() {
        CallFilter x = new CallFilter(0);
        for (int i = 0; i < 16; i++) {
            x.word(i, -1 - i);
        }
        for (int i = 0; i < 16; i++) {
            ANSWERS.due("20 with " + 4 * i, MOST - i, Code.wordOf(x, i));
        }
    }

    // "60 A = scratch word k", "61 X = scratch word k", "02 scratch word k = A", "03 scratch word k = X"
    private static void loadsAndStoresOfScratch() {
        for (int i = 0; i < 16; i++) {
            due("02 and 60", 9, Code.of(0x00, 9), Code.of(0x02, i), Code.of(0x00, 1), Code.of(0x60, i), RETURN);
            due("03 and 60", 9, Code.of(0x01, 9), Code.of(0x03, i), Code.of(0x60, i), RETURN);
            due("02 and 61", 9, Code.of(0x00, 9), Code.of(0x02, i), Code.of(0x61, i), Code.of(0x00, 1), X_TO_A, RETURN);
        }
        CallFilter x = new CallFilter(0);
        for (int i = 0; i < 16; i++) {
            x.put(Code.of(0x04, i + 1));
            x.put(Code.of(0x02, i));
        }
        for (int i = 0; i < 16; i++) {
            x.put(Code.of(0x60, i));
            x.put(Code.of(0x16, 0));
            ANSWERS.due("word " + i + " of sixteen", (i + 1) * (i + 2) / 2, x.run());
            x.cut(2);
        }
    }

    // "07 X = A", "87 A = X"
    private static void copies() {
        due("07", 5, Code.of(0x00, 5), Code.of(0x07, 0), Code.of(0x00, 1), X_TO_A, RETURN);
        due("87", 6, Code.of(0x01, 6), Code.of(0x87, 9), RETURN);
    }

    // "84 A = 0 - A"
    private static void negation() {
        for (long a : NUMBERS) {
            due("84 on " + a, a == 0 ? 0 : MOST + 1 - a, Code.of(0x01, 3), Code.of(0x00, a), Code.of(0x84, 3), RETURN);
        }
    }

    // "04 A = A + k 14 A - k 24 A * k 34 A / k .. 44 A or k 54 A and k A4 A exclusive-or k 64 .. 74 .."
    private static void arithmeticWithK() {
        for (int code : new int[] {0x04, 0x14, 0x24, 0x34, 0x44, 0x54, 0xa4, 0x64, 0x74}) {
            boolean shifts = code == 0x64 || code == 0x74;
            for (long a : NUMBERS) {
                for (long k : NUMBERS) {
                    if (!(code == 0x34 && k == 0) && !(shifts && k > 31)) {
                        due(Integer.toHexString(code) + " on " + a + " and " + k, result(code, a, k),
                            Code.of(0x01, 5), Code.of(0x00, a), Code.of(code, k), RETURN);
                    }
                }
            }
        }
    }

    // "the same codes plus 8 (0C, 1C, .. 7C, AC): with X in place of k"
    private static void arithmeticWithX() {
        for (int code : new int[] {0x04, 0x14, 0x24, 0x34, 0x44, 0x54, 0xa4, 0x64, 0x74}) {
            for (long a : NUMBERS) {
                for (long x : NUMBERS) {
                    dueOfX(code, a, x, result(code, a, x));
                }
            }
        }
    }

    private static long result(int code, long a, long y) {
        switch (code) {
            case 0x04: return (a + y) % (MOST + 1);
            case 0x14: return (a - y + MOST + 1) % (MOST + 1);
            case 0x24: return BigInteger.valueOf(a).multiply(BigInteger.valueOf(y))
                .mod(BigInteger.ONE.shiftLeft(32)).longValueExact();
            case 0x34: return y == 0 ? 0 : a / y;
            case 0x44: return a | y;
            case 0x54: return a & y;
            case 0xa4: return a ^ y;
            case 0x64: return (a << y % 32) % (MOST + 1);
            default: return a >> y % 32;
        }
    }

    // "34 A / k, rounded down"
    private static void divisionIsRoundedDown() {
        dueOfBoth(0x34, 7, 7, 1);
        dueOfBoth(0x34, 6, 7, 0);
        dueOfBoth(0x34, 13, 7, 1);
        dueOfBoth(0x34, 14, 7, 2);
        dueOfBoth(0x34, MOST, 2, HIGH - 1);
        dueOfBoth(0x34, MOST, 1, MOST);
        dueOfBoth(0x34, MOST, MOST, 1);
        dueOfBoth(0x34, MOST - 1, MOST, 0);
        dueOfBoth(0x34, HIGH, MOST, 0);
        dueOfBoth(0x34, 0, 5, 0);
    }

    // "74 A shifted right by k": without sign
    private static void rightShiftsBringZeros() {
        dueOfBoth(0x74, MOST, 0, MOST);
        dueOfBoth(0x74, MOST, 1, HIGH - 1);
        dueOfBoth(0x74, HIGH, 31, 1);
        dueOfBoth(0x74, HIGH - 1, 31, 0);
        dueOfBoth(0x74, 1, 1, 0);
    }

    // "where a shift is by the remainder of X by 32"
    private static void shiftsByTheRemainderOfX() {
        for (long whole : new long[] {0, 32, 64, HIGH, MOST - 31}) {
            for (int rest : new int[] {0, 1, 30, 31}) {
                dueOfX(0x64, 0xc0000003L, whole + rest, (0xc0000003L << rest) & MOST);
                dueOfX(0x74, 0xc0000003L, whole + rest, 0xc0000003L >> rest);
            }
        }
    }

    // "dividing by X = 0 ends the run with the value 0"
    private static void divisionByXZero() {
        CallFilter x = Code.filter(Code.of(0x00, 8), Code.of(0x02, 2), Code.of(0x3c, 5), Code.of(0x02, 3),
            Code.of(0x06, 9));
        ANSWERS.due("divided by X = 0", 0, x.run());
        ANSWERS.due("steps()", 3, x.steps());
        ANSWERS.due("stored before", 8, x.scratch(2));
        ANSWERS.due("not stored behind", -1, x.scratch(3));
        due("0 divided by 0", 0, Code.of(0x3c, 5), Code.of(0x06, 9));
        due("X = 1", 9, Code.of(0x01, 1), Code.of(0x3c, 0), Code.of(0x06, 9));
        due("X = 2^32 - 1", 9, Code.of(0x01, MOST), Code.of(0x3c, 0), Code.of(0x06, 9));
        due("X = 2^31", 9, Code.of(0x01, HIGH), Code.of(0x3c, 0), Code.of(0x06, 9));
    }

    // "05 k instructions are skipped"
    private static void skips() {
        for (int n : new int[] {0, 1, 2, 61, 62}) {
            CallFilter x = new CallFilter(0);
            x.put(Code.of(0x05, 3, 4, n));
            for (int i = 0; i < 63; i++) {
                x.put(Code.of(0x06, i));
            }
            ANSWERS.due("05 with " + n, n, x.run());
            ANSWERS.due("its steps", 2, x.steps());
        }
        due("05 looks at k, not at X", 2, Code.of(0x01, 2), Code.of(0x05, 1), Code.of(0x06, 1), Code.of(0x06, 2),
            Code.of(0x06, 3));
    }

    // "15 jt instructions are skipped if A = k, otherwise jf 25 .. A > k 35 A >= k 45 (A and k) is not 0"
    private static void conditionalsWithK() {
        for (int code : new int[] {0x15, 0x25, 0x35, 0x45}) {
            for (long a : NUMBERS) {
                for (long k : NUMBERS) {
                    due(Integer.toHexString(code) + " on " + a + " and " + k, holds(code, a, k) ? 11 : 12,
                        Code.of(0x01, 5), Code.of(0x00, a), Code.of(code, 1, 2, k), Code.of(0x06, 10),
                        Code.of(0x06, 11), Code.of(0x06, 12));
                }
            }
        }
    }

    // "15, 25, 35 and 45 plus 8 (1D, 2D, 3D, 4D): with X in place of k"
    private static void conditionalsWithX() {
        for (int code : new int[] {0x15, 0x25, 0x35, 0x45}) {
            for (long a : NUMBERS) {
                for (long x : NUMBERS) {
                    due(Integer.toHexString(code + 8) + " on " + a + " and " + x, holds(code, a, x) ? 11 : 12,
                        Code.of(0x01, x), Code.of(0x00, a), Code.of(code + 8, 1, 2, 77), Code.of(0x06, 10),
                        Code.of(0x06, 11), Code.of(0x06, 12));
                }
            }
        }
    }

    private static boolean holds(int code, long a, long y) {
        switch (code) {
            case 0x15: return a == y;
            case 0x25: return a > y;
            case 0x35: return a >= y;
            default: return (a & y) != 0;
        }
    }

    // "jt instructions are skipped if .., otherwise jf": at the least and the greatest distance
    private static void conditionalsTakeTheirOwnDistance() {
        for (int code : new int[] {0x15, 0x25, 0x35, 0x45, 0x1d, 0x2d, 0x3d, 0x4d}) {
            for (int a : new int[] {2, 0}) {
                // 2 = 2 and 2 >= 2, and for the others 2 > 1 and (2 and 3) is not 0; 0 does none of these.
                long y = (code & 0xf0) == 0x20 ? 1 : (code & 0xf0) == 0x40 ? 3 : 2;
                for (int[] d : new int[][] {{0, 60}, {60, 0}, {0, 0}, {60, 60}}) {
                    CallFilter x = Code.filter(Code.of(0x01, y), Code.of(0x00, a), Code.of(code, d[0], d[1], y));
                    for (int i = 0; i < 61; i++) {
                        x.put(Code.of(0x06, i));
                    }
                    ANSWERS.due(Integer.toHexString(code) + " with A = " + a, a == 2 ? d[0] : d[1], x.run());
                    ANSWERS.due("its steps", 4, x.steps());
                }
            }
        }
    }

    // "06 the run ends with the value k 16 the run ends with the value A"
    private static void ends() {
        for (long v : NUMBERS) {
            due("06 with " + v, v, Code.of(0x00, 5), Code.of(0x01, 6), Code.of(0x06, 255, 255, v), Code.of(0x06, 9));
            due("16 with " + v, v, Code.of(0x00, v), Code.of(0x01, 6), Code.of(0x16, 255, 255, 5), Code.of(0x06, 9));
        }
    }
}
