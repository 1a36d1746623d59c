/** Promise 13 (check). */
public final class CheckTest {
    private static final Answers ANSWERS = new Answers();
    private static final long UNKNOWN = Code.of(0x08, 0);
    private static final long BAD_OPERAND = Code.of(0x34, 0);
    private static final long BAD_JUMP = Code.of(0x05, 64);
    private static final long ADD = Code.of(0x04, 1);
    private static final long RETURN = Code.of(0x16, 0);
    private static final int[] CONDITIONAL = {0x15, 0x25, 0x35, 0x45, 0x1d, 0x2d, 0x3d, 0x4d};

    public static void main(String[] args) {
        anEmptyProgram();
        allCodes();
        operandsOfTheRecord();
        operandsOfScratch();
        operandsOfDivisionAndShift();
        operandsThatMayBeAnything();
        skips();
        conditionalJumps();
        distancesOfOthersDoNotCount();
        theEnd();
        theOrderOfFaults();
        theLeastIsTold();
        unreachedInstructionsHaveFaultsToo();
        unsetOnAStraightWay();
        unsetOnOneOfTwoWays();
        unsetWhereManyWaysMeet();
        unsetIsForEachWord();
        unreachedInstructionsAreNeverUnset();
        unreachedStoresDoNotCount();
        conditionsThatAreNeverTrueCountAsWays();
        divisionIsNoEnd();
        checkChangesNothing();
        ANSWERS.finish();
    }

    private static void due(String what, int want, long... program) {
        ANSWERS.due(what, want, Code.filter(program).check());
    }

    private static void anEmptyProgram() {
        due("empty", 100);
    }

    private static void allCodes() {
        CallFilter x = new CallFilter(0);
        boolean[] known = new boolean[1 << 16];
        for (int code : Code.ALL) {
            known[code] = true;
        }
        for (int code = 0; code < known.length; code++) {
            // The object's calls are counted, so a fresh one is taken now and then.
            x = code % 64 == 0 ? new CallFilter(0) : x;
            long first = Code.of(0x02, 4);
            Code.replace(x, first, Code.of(code, 4), RETURN);
            int wanted = known[code] ? (code == 0x05 ? 401 : 0) : 201;
            ANSWERS.due("code " + Integer.toHexString(code), wanted, x.check());
        }
    }

    private static void operandsOfTheRecord() {
        for (int k = 0; k <= 80; k++) {
            due("20 with " + k, k % 4 == 0 && k <= 60 ? 0 : 300, Code.of(0x20, k), RETURN);
        }
        due("20 with 2^31", 300, Code.of(0x20, 1L << 31), RETURN);
        due("20 with 2^32 - 4", 300, Code.of(0x20, 0xfffffffcL), RETURN);
    }

    private static void operandsOfScratch() {
        for (int code : new int[] {0x60, 0x61, 0x02, 0x03}) {
            boolean loads = code == 0x60 || code == 0x61;
            for (long k : new long[] {0, 1, 14, 15}) {
                due("code " + code + " with " + k, loads ? 600 : 0, Code.of(code, k), RETURN);
            }
            for (long k : new long[] {16, 17, 32, 48, 0x7fffffffL, 0x80000000L, 0xffffffffL}) {
                due("code " + code + " with " + k, 300, Code.of(code, k), RETURN);
            }
        }
    }

    private static void operandsOfDivisionAndShift() {
        due("34 with 0", 300, Code.of(0x34, 0), RETURN);
        due("34 with 1", 0, Code.of(0x34, 1), RETURN);
        due("34 with the greatest", 0, Code.of(0x34, 0xffffffffL), RETURN);
        due("3C with 0", 0, Code.of(0x3c, 0), RETURN);
        for (int code : new int[] {0x64, 0x74}) {
            due("shift by 0", 0, Code.of(code, 0), RETURN);
            due("shift by 31", 0, Code.of(code, 31), RETURN);
            due("shift by 32", 300, Code.of(code, 32), RETURN);
            due("shift by the greatest", 300, Code.of(code, 0xffffffffL), RETURN);
            due("shift by 2^31", 300, Code.of(code, 1L << 31), RETURN);
            due("shift by X", 0, Code.of(code + 8, 32), RETURN);
        }
    }

    private static void operandsThatMayBeAnything() {
        for (int code : Code.ALL) {
            boolean looked = code == 0x20 || code == 0x60 || code == 0x61 || code == 0x02 || code == 0x03
                || code == 0x64 || code == 0x74 || code == 0x05;
            if (!looked) {
                due("code " + code + " with the greatest", 0, Code.of(code, 0xffffffffL), RETURN);
            }
            if (!looked && code != 0x34) {
                due("code " + code + " with 0", 0, Code.of(code, 0), RETURN);
            }
        }
    }

    private static void skips() {
        due("skip 0 to the end", 0, Code.of(0x05, 0), RETURN);
        due("skip 1 beyond", 400, Code.of(0x05, 1), RETURN);
        due("skip 1 to the end", 0, Code.of(0x05, 1), RETURN, RETURN);
        due("skip 2 beyond", 400, Code.of(0x05, 2), RETURN, RETURN);
        due("skip 2^31", 400, Code.of(0x05, 1L << 31), RETURN);
        due("skip the greatest", 400, Code.of(0x05, 0xffffffffL), RETURN);
        due("skip the greatest less one", 401, ADD, Code.of(0x05, 0xfffffffeL), RETURN);
        due("skip as the last", 401, ADD, Code.of(0x05, 0));
        long[] full = new long[64];
        java.util.Arrays.fill(full, RETURN);
        full[0] = Code.of(0x05, 62);
        due("skip 62 of 64", 0, full);
        full[0] = Code.of(0x05, 63);
        due("skip 63 of 64", 400, full);
    }

    private static void conditionalJumps() {
        for (int code : CONDITIONAL) {
            due("0, 0", 0, Code.of(code, 0, 0, 9), RETURN);
            due("1, 0 to the end", 0, Code.of(code, 1, 0, 9), RETURN, RETURN);
            due("0, 1 to the end", 0, Code.of(code, 0, 1, 9), RETURN, RETURN);
            due("2, 0 beyond", 400, Code.of(code, 2, 0, 9), RETURN, RETURN);
            due("0, 2 beyond", 400, Code.of(code, 0, 2, 9), RETURN, RETURN);
            due("2, 2 beyond", 401, ADD, Code.of(code, 2, 2, 9), RETURN, RETURN);
            due("255, 0", 400, Code.of(code, 255, 0, 9), RETURN, RETURN);
            due("0, 255", 400, Code.of(code, 0, 255, 9), RETURN, RETURN);
            due("0, 128", 400, Code.of(code, 0, 128, 9), RETURN, RETURN);
            due("as the last", 402, ADD, ADD, Code.of(code, 0, 0, 9));
        }
    }

    private static void distancesOfOthersDoNotCount() {
        for (int code : new int[] {0x00, 0x04, 0x07, 0x80, 0x84, 0x02, 0x20, 0x0c, 0x06, 0x16}) {
            due("code " + code + " with distances", 0, Code.of(code, 255, 255, 0), RETURN);
        }
        due("skip with distances", 0, Code.of(0x05, 255, 255, 0), RETURN);
        due("the end with distances", 0, Code.of(0x16, 255, 255, 0));
    }

    private static void theEnd() {
        due("06", 0, Code.of(0x06, 0));
        due("16", 0, RETURN);
        for (int code : Code.ALL) {
            boolean jumps = code % 8 == 5;
            boolean ends = code == 0x06 || code == 0x16;
            int wanted = jumps ? 401 : ends ? 0 : 501;
            due("code " + code + " as the last", wanted, Code.of(0x02, 4), Code.of(code, 4));
        }
    }

    private static void theOrderOfFaults() {
        long unset = Code.of(0x60, 3);
        due("UNSET before END: END", 501, unset, ADD);
        due("UNSET and END before CODE: CODE", 201, unset, UNKNOWN);
        due("UNSET before OPERAND: OPERAND", 301, unset, BAD_OPERAND, RETURN);
        due("UNSET before JUMP: JUMP", 401, unset, BAD_JUMP, RETURN);
        due("CODE and END: CODE", 200, UNKNOWN, ADD);
        due("OPERAND and END: OPERAND", 300, BAD_OPERAND, ADD);
        due("END and UNSET in one: END", 500, unset);
        due("OPERAND and END in one: OPERAND", 300, BAD_OPERAND);
        due("JUMP and END in one: JUMP", 400, BAD_JUMP);
        due("CODE and END in one: CODE", 200, UNKNOWN);
    }

    private static void theLeastIsTold() {
        long[] faulty = {UNKNOWN, BAD_OPERAND, BAD_JUMP};
        int[] faults = {200, 300, 400};
        for (int i = 0; i < 3; i++) {
            for (int j = 0; j < 3; j++) {
                due("two faults", faults[i] + 1, ADD, faulty[i], ADD, faulty[j], RETURN);
            }
        }
        due("two UNSET", 601, ADD, Code.of(0x61, 3), Code.of(0x60, 3), RETURN);
        long[] full = new long[64];
        java.util.Arrays.fill(full, ADD);
        full[63] = UNKNOWN;
        due("the last of 64", 263, full);
        full[63] = RETURN;
        full[62] = Code.of(0x60, 0);
        due("UNSET in 62", 662, full);
    }

    private static void unreachedInstructionsHaveFaultsToo() {
        due("CODE behind the end", 201, RETURN, UNKNOWN, RETURN);
        due("OPERAND behind the end", 301, RETURN, BAD_OPERAND, RETURN);
        due("JUMP behind the end", 401, RETURN, BAD_JUMP, RETURN);
        due("END behind the end", 501, RETURN, ADD);
    }

    private static void unsetOnAStraightWay() {
        for (int load : new int[] {0x60, 0x61}) {
            for (int store : new int[] {0x02, 0x03}) {
                due("stored", 0, Code.of(store, 15), Code.of(load, 15), RETURN);
                due("stored later", 600, Code.of(load, 15), Code.of(store, 15), RETURN);
                due("another stored", 601, Code.of(store, 14), Code.of(load, 15), RETURN);
            }
        }
    }

    private static void unsetOnOneOfTwoWays() {
        for (int code : CONDITIONAL) {
            due("stored if true alone", 603, Code.of(code, 0, 1, 9), Code.of(0x02, 1), ADD,
                Code.of(0x60, 1), RETURN);
            due("stored if false alone", 603, Code.of(code, 1, 0, 9), Code.of(0x02, 1), ADD,
                Code.of(0x60, 1), RETURN);
            due("stored on both", 0, Code.of(code, 0, 2, 9), Code.of(0x02, 1), Code.of(0x05, 1),
                Code.of(0x03, 1), Code.of(0x60, 1), RETURN);
            due("the other way ends", 0, Code.of(code, 0, 1, 9), RETURN, Code.of(0x02, 1),
                Code.of(0x60, 1), RETURN);
            due("stored before the ways part", 0, Code.of(0x02, 1), Code.of(code, 0, 1, 9), ADD,
                Code.of(0x60, 1), RETURN);
        }
        due("a skip over the store", 602, Code.of(0x05, 1), Code.of(0x02, 1), Code.of(0x60, 1), RETURN);
    }

    private static void unsetWhereManyWaysMeet() {
        long[] joins = {ADD, Code.of(0x05, 0), Code.of(0x15, 0, 0, 9), Code.of(0x4d, 0, 0, 9)};
        for (long join : joins) {
            due("the later way stores", 604, Code.of(0x15, 0, 1, 9), Code.of(0x05, 2), Code.of(0x02, 1), join,
                Code.of(0x60, 1), RETURN);
            due("the earlier way stores", 604, Code.of(0x15, 0, 2, 9), Code.of(0x02, 1), Code.of(0x05, 1), join,
                Code.of(0x60, 1), RETURN);
            due("both store", 0, Code.of(0x15, 0, 2, 9), Code.of(0x02, 1), Code.of(0x05, 2), Code.of(0x03, 1),
                join, Code.of(0x60, 1), RETURN);
        }
    }

    private static void unsetIsForEachWord() {
        for (int i = 0; i < 16; i++) {
            for (int j = 0; j < 16; j++) {
                due("stored " + i + ", loaded " + j, i == j ? 0 : 601, Code.of(0x02, i), Code.of(0x60, j),
                    RETURN);
            }
        }
        due("one word on each way", 605, Code.of(0x15, 0, 2, 9), Code.of(0x02, 1), Code.of(0x05, 1),
            Code.of(0x02, 2), ADD, Code.of(0x60, 1), RETURN);
    }

    private static void unreachedInstructionsAreNeverUnset() {
        due("behind the end", 0, RETURN, Code.of(0x60, 1), RETURN);
        due("skipped", 0, Code.of(0x05, 1), Code.of(0x61, 1), RETURN);
        due("behind a jump to which no way leads", 0, RETURN, Code.of(0x15, 0, 1, 0), Code.of(0x60, 1),
            Code.of(0x61, 2), RETURN);
        due("the skipped one is not told, the reached one is", 602, Code.of(0x05, 1), Code.of(0x61, 1),
            Code.of(0x60, 1), RETURN);
    }

    private static void unreachedStoresDoNotCount() {
        due("a way that is none takes nothing away", 0, Code.of(0x02, 1), Code.of(0x05, 1), ADD,
            Code.of(0x60, 1), RETURN);
        due("a store that is skipped", 602, Code.of(0x05, 1), Code.of(0x02, 1), Code.of(0x60, 1), RETURN);
        due("a store behind the end", 603, Code.of(0x15, 1, 1, 0), Code.of(0x06, 0), Code.of(0x05, 0),
            Code.of(0x60, 1), RETURN);
    }

    private static void conditionsThatAreNeverTrueCountAsWays() {
        due("A >= 0 has two ways", 602, Code.of(0x35, 0, 1, 0), Code.of(0x02, 1), Code.of(0x60, 1), RETURN);
        due("A and 0 has two ways", 602, Code.of(0x45, 1, 0, 0), Code.of(0x02, 1), Code.of(0x60, 1), RETURN);
    }

    private static void divisionIsNoEnd() {
        due("3C goes on", 601, Code.of(0x3c, 0), Code.of(0x60, 1), RETURN);
        due("3C is no end", 500, Code.of(0x3c, 0));
    }

    private static void checkChangesNothing() {
        CallFilter x = Code.filter(Code.of(0x02, 1), Code.of(0x60, 1), RETURN);
        for (int i = 0; i < 3; i++) {
            ANSWERS.due("check again", 0, x.check());
        }
        x.run();
        x.put(UNKNOWN);
        ANSWERS.due("check", 203, x.check());
        ANSWERS.due("steps stay", 3, x.steps());
        ANSWERS.due("scratch stays", 0, x.scratch(1));
        Code.replace(x, Code.of(0x60, 1), RETURN);
        ANSWERS.due("what the last run stored is not stored", 600, x.check());
    }
}
