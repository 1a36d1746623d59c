import java.util.Arrays;

/** Terms: CHECK. Promise 13 (check). Over each test its sentence. */
public final class CheckTest {
    private static final Answers ANSWERS = new Answers();
    private static final long UNKNOWN = Code.of(0x08, 0);
    private static final long BAD_OPERAND = Code.of(0x34, 0);
    private static final long BAD_JUMP = Code.of(0x05, 64);
    private static final long ADD = Code.of(0x04, 1);
    private static final long RETURN = Code.of(0x16, 0);
    private static final long LOAD = Code.of(0x60, 1);
    private static final long STORE = Code.of(0x02, 1);
    private static final long MOST = 0xffffffffL;
    private static final long[] TOO_GREAT = {0x7fffffffL, 0x80000000L, MOST - 1, MOST};
    private static final int[] CONDITIONAL = {0x15, 0x25, 0x35, 0x45, 0x1d, 0x2d, 0x3d, 0x4d};

    public static void main(String[] args) {
        codeIsNoneOfThese();
        operandOfTheRecord();
        operandOfScratch();
        operandOfDivision();
        operandOfShifts();
        operandOfOthersMayBeAnything();
        jumpOfSkip();
        jumpOfConditionals();
        jumpFromEachPlace();
        distancesOfOthersDoNotCount();
        endOfTheLast();
        unsetOnAStraightWay();
        unsetForEachWord();
        unsetFromInstructionZero();
        unsetOnOneOfTwoWays();
        unsetWhereWaysMeet();
        unsetBehindASkip();
        bothWaysWhateverAAndXAre();
        noWayBehindAnEnd();
        divisionByXIsNoEnd();

        zeroWithoutFault();
        emptyProgram();
        unreachedHaveFaultsToo();
        unreachedAreNeverUnset();
        leastOfCodeOperandJump();
        endBehindCodeOperandJump();
        unsetBehindEnd();
        leastUnset();
        numbersOfInstructions();
        checkLooksAtTheProgramAsItIs();
        checkLooksAtNoRun();
        checkChangesNothing();
        ANSWERS.finish();
    }

    private static void due(String what, int want, long... program) {
        ANSWERS.due(what, want, Code.filter(program).check());
    }

    private static String hex(int code) {
        return Integer.toHexString(code);
    }

    // "CODE, its code is none of these."
    private static void codeIsNoneOfThese() {
        boolean[] known = new boolean[1 << 16];
        for (int code : Code.ALL) {
            known[code] = true;
        }
        CallFilter x = new CallFilter(0);
        for (int code = 0; code < known.length; code++) {
            // The object's calls are counted, so a fresh one is taken now and then.
            x = code % 64 == 0 ? new CallFilter(0) : x;
            Code.replace(x, Code.of(0x02, 4), Code.of(code, 4), RETURN);
            int wanted = known[code] ? (code == 0x05 ? 401 : 0) : 201;
            ANSWERS.due("code " + hex(code), wanted, x.check());
        }
    }

    // "OPERAND, it is 20 and k is not a multiple of 4 from 0 to 60"
    private static void operandOfTheRecord() {
        for (int k = 0; k <= 130; k++) {
            due("20 with " + k, k % 4 == 0 && k <= 60 ? 0 : 300, Code.of(0x20, k), RETURN);
        }
        for (long k : TOO_GREAT) {
            due("20 with " + k, 300, Code.of(0x20, k), RETURN);
        }
        due("20 with 2^31 + 4", 300, Code.of(0x20, 0x80000004L), RETURN);
        due("20 with 2^32 - 4", 300, Code.of(0x20, MOST - 3), RETURN);
    }

    // "or it is 60, 61, 02 or 03 and k is above 15"
    private static void operandOfScratch() {
        for (int code : new int[] {0x60, 0x61, 0x02, 0x03}) {
            for (int k = 0; k <= 15; k++) {
                due(hex(code) + " with " + k, 0, Code.of(0x02, k), Code.of(code, k), RETURN);
            }
            for (long k : new long[] {16, 17, 31, 32, 33, 48, 256}) {
                due(hex(code) + " with " + k, 300, Code.of(code, k), RETURN);
            }
            for (long k : TOO_GREAT) {
                due(hex(code) + " with " + k, 300, Code.of(code, k), RETURN);
            }
        }
    }

    // "or it is 34 and k is 0"
    private static void operandOfDivision() {
        due("34 with 0", 300, Code.of(0x34, 0), RETURN);
        due("34 with 1", 0, Code.of(0x34, 1), RETURN);
        for (long k : TOO_GREAT) {
            due("34 with " + k, 0, Code.of(0x34, k), RETURN);
        }
        due("3C with 0", 0, Code.of(0x3c, 0), RETURN);
    }

    // "or it is 64 or 74 and k is above 31"
    private static void operandOfShifts() {
        for (int code : new int[] {0x64, 0x74}) {
            for (int k = 0; k <= 31; k++) {
                due(hex(code) + " with " + k, 0, Code.of(code, k), RETURN);
            }
            for (long k : new long[] {32, 33, 63, 64, 256}) {
                due(hex(code) + " with " + k, 300, Code.of(code, k), RETURN);
                due(hex(code + 8) + " with " + k, 0, Code.of(code + 8, k), RETURN);
            }
            for (long k : TOO_GREAT) {
                due(hex(code) + " with " + k, 300, Code.of(code, k), RETURN);
                due(hex(code + 8) + " with " + k, 0, Code.of(code + 8, k), RETURN);
            }
        }
    }

    private static void operandOfOthersMayBeAnything() {
        for (int code : Code.ALL) {
            boolean looked = code == 0x20 || code == 0x60 || code == 0x61 || code == 0x02 || code == 0x03
                || code == 0x34 || code == 0x64 || code == 0x74 || code == 0x05;
            for (long k : new long[] {0, 1, 16, 32, 61, 64, 0x80000000L, MOST}) {
                if (!looked) {
                    due(hex(code) + " with " + k, 0, Code.of(code, k), RETURN);
                }
            }
        }
    }

    // "JUMP, it is 05 and k .. is so great that the next one would not be one of the n"
    private static void jumpOfSkip() {
        for (int n = 2; n <= 64; n++) {
            long[] program = new long[n];
            Arrays.fill(program, RETURN);
            program[0] = Code.of(0x05, n - 2);
            due("skip to the last of " + n, 0, program);
            program[0] = Code.of(0x05, n - 1);
            due("skip beyond the last of " + n, 400, program);
        }
        for (long k : TOO_GREAT) {
            due("skip " + k, 401, ADD, Code.of(0x05, k), RETURN);
        }
        due("skip 0 as the last", 401, ADD, Code.of(0x05, 0));
        due("skip 0 alone", 400, Code.of(0x05, 0));
    }

    // "or it is conditional and jt or jf, is so great that the next one would not be one of the n"
    private static void jumpOfConditionals() {
        for (int code : CONDITIONAL) {
            for (int n : new int[] {2, 3, 4, 63, 64}) {
                long[] program = new long[n];
                Arrays.fill(program, RETURN);
                int[][] cases = {{0, 0, 0}, {n - 2, 0, 0}, {0, n - 2, 0}, {n - 2, n - 2, 0}, {n - 1, 0, 400},
                    {0, n - 1, 400}, {n - 1, n - 1, 400}, {n - 2, n - 1, 400}, {n - 1, n - 2, 400},
                    {127, 0, 400}, {0, 127, 400}, {128, 0, 400}, {0, 128, 400}, {255, 0, 400}, {0, 255, 400}};
                for (int[] c : cases) {
                    program[0] = Code.of(code, c[0], c[1], 9);
                    due(hex(code) + " by " + c[0] + ", " + c[1] + " of " + n, c[2], program);
                }
            }
            due(hex(code) + " as the last", 402, ADD, ADD, Code.of(code, 0, 0, 9));
            due(hex(code) + " alone", 400, Code.of(code, 0, 0, 9));
        }
    }

    // The same sentence: the distance is counted from the instruction itself.
    private static void jumpFromEachPlace() {
        for (int place = 0; place < 63; place++) {
            long[] program = new long[64];
            Arrays.fill(program, RETURN);
            int room = 62 - place;
            program[place] = Code.of(0x05, room);
            due("skip from " + place + " to the last", 0, program);
            program[place] = Code.of(0x05, room + 1);
            due("skip from " + place + " beyond", 400 + place, program);
            program[place] = Code.of(0x15, room, room, 0);
            due("jump from " + place + " to the last", 0, program);
            program[place] = Code.of(0x15, room + 1, 0, 0);
            due("jump from " + place + " beyond", 400 + place, program);
            program[place] = Code.of(0x15, 0, room + 1, 0);
            due("jump from " + place + " beyond", 400 + place, program);
        }
    }

    private static void distancesOfOthersDoNotCount() {
        for (int code : Code.ALL) {
            boolean conditional = code % 8 == 5 && code != 0x05;
            if (!conditional) {
                long k = code == 0x05 ? 0 : 4;
                due(hex(code) + " with distances", 0, Code.of(0x02, 4), Code.of(code, 255, 255, k), RETURN);
            }
        }
    }

    // "END, it is the last one and its code is not 06 or 16."
    private static void endOfTheLast() {
        for (int code : Code.ALL) {
            boolean jumps = code % 8 == 5;
            boolean ends = code == 0x06 || code == 0x16;
            due(hex(code) + " as the last", jumps ? 401 : ends ? 0 : 501, Code.of(0x02, 4), Code.of(code, 4));
            if (!jumps) {
                due(hex(code) + " as the last but one", 0, Code.of(0x02, 4), Code.of(code, 4), RETURN);
            }
        }
        due("06 alone", 0, Code.of(0x06, 0));
        due("16 alone", 0, RETURN);
        due("behind an end", 501, RETURN, ADD);
    }

    // "UNSET, it is 60 or 61, and there is a way from instruction 0 to it on which scratch word k is not stored"
    private static void unsetOnAStraightWay() {
        for (int load : new int[] {0x60, 0x61}) {
            for (int store : new int[] {0x02, 0x03}) {
                due("stored", 0, Code.of(store, 15), Code.of(load, 15), RETURN);
                due("stored long before", 0, Code.of(store, 15), ADD, ADD, Code.of(store, 3), ADD,
                    Code.of(load, 15), RETURN);
                due("stored later", 600, Code.of(load, 15), Code.of(store, 15), RETURN);
                due("another stored", 601, Code.of(store, 14), Code.of(load, 15), RETURN);
            }
            due("loaded is not stored", 600, Code.of(load, 2), Code.of(load, 2), RETURN);
        }
    }

    // "scratch word k"
    private static void unsetForEachWord() {
        for (int i = 0; i < 16; i++) {
            for (int j = 0; j < 16; j++) {
                due("stored " + i + ", loaded " + j, i == j ? 0 : 601, Code.of(0x02, i), Code.of(0x60, j), RETURN);
                due("stored " + i + ", loaded " + j, i == j ? 0 : 601, Code.of(0x03, i), Code.of(0x61, j), RETURN);
            }
        }
        due("one word on each way", 605, Code.of(0x15, 0, 2, 9), Code.of(0x02, 1), Code.of(0x05, 1),
            Code.of(0x02, 2), ADD, Code.of(0x60, 1), RETURN);
    }

    // "a way from instruction 0 to it": also the way that has no other instruction
    private static void unsetFromInstructionZero() {
        for (int k = 0; k <= 15; k++) {
            due("60 as instruction 0", 600, Code.of(0x60, k), RETURN);
            due("61 as instruction 0", 600, Code.of(0x61, k), RETURN);
        }
    }

    // "a way goes from an instruction to any that may come next (for conditional ones both may .."
    private static void unsetOnOneOfTwoWays() {
        for (int code : CONDITIONAL) {
            due("stored if true alone", 603, Code.of(code, 0, 1, 9), STORE, ADD, LOAD, RETURN);
            due("stored if false alone", 603, Code.of(code, 1, 0, 9), STORE, ADD, LOAD, RETURN);
            due("stored on both", 0, Code.of(code, 0, 2, 9), STORE, Code.of(0x05, 1), Code.of(0x03, 1), LOAD, RETURN);
            due("stored on both, turned round", 0, Code.of(code, 2, 0, 9), STORE, Code.of(0x05, 1),
                Code.of(0x03, 1), LOAD, RETURN);
            due("the other way ends", 0, Code.of(code, 0, 1, 9), RETURN, STORE, LOAD, RETURN);
            due("the other way ends", 0, Code.of(code, 1, 0, 9), RETURN, STORE, LOAD, RETURN);
            due("stored before the ways part", 0, STORE, Code.of(code, 0, 1, 9), ADD, LOAD, RETURN);
            due("both over the store", 602, Code.of(code, 1, 1, 9), STORE, LOAD, RETURN);
        }
    }

    // The same sentence: one way of many is enough.
    private static void unsetWhereWaysMeet() {
        long[] joins = {ADD, Code.of(0x05, 0), Code.of(0x15, 0, 0, 9), Code.of(0x4d, 0, 0, 9)};
        for (long join : joins) {
            due("the later way stores", 604, Code.of(0x15, 0, 1, 9), Code.of(0x05, 2), STORE, join, LOAD, RETURN);
            due("the earlier way stores", 604, Code.of(0x15, 0, 2, 9), STORE, Code.of(0x05, 1), join, LOAD, RETURN);
            due("both store", 0, Code.of(0x15, 0, 2, 9), STORE, Code.of(0x05, 2), Code.of(0x03, 1), join, LOAD,
                RETURN);
        }
        long[] chain = new long[64];
        for (int i = 0; i < 62; i++) {
            chain[i] = i % 2 == 0 ? Code.of(0x15, 0, 1, i) : STORE;
        }
        chain[62] = LOAD;
        chain[63] = RETURN;
        due("one way of 2^31 stores nothing", 662, chain);
        chain[60] = STORE;
        due("all of 2^30 ways store", 0, chain);
    }

    // "a way goes from an instruction to any that may come next": after 05 the one behind those skipped alone
    private static void unsetBehindASkip() {
        due("a skip over the store", 602, Code.of(0x05, 1), STORE, LOAD, RETURN);
        due("a skip of nothing", 0, Code.of(0x05, 0), STORE, LOAD, RETURN);
        due("a skip over what is no store", 0, STORE, Code.of(0x05, 1), ADD, LOAD, RETURN);
        due("a skip over another skip", 603, Code.of(0x05, 1), Code.of(0x05, 0), Code.of(0x05, 0), LOAD, RETURN);
    }

    // "for conditional ones both may, whatever A and X are"
    private static void bothWaysWhateverAAndXAre() {
        due("A = 0 is true", 602, Code.of(0x15, 0, 1, 0), STORE, LOAD, RETURN);
        due("A > 2^32 - 1 is false", 602, Code.of(0x25, 1, 0, MOST), STORE, LOAD, RETURN);
        due("A >= 0 is true", 602, Code.of(0x35, 0, 1, 0), STORE, LOAD, RETURN);
        due("(A and 0) is 0", 602, Code.of(0x45, 1, 0, 0), STORE, LOAD, RETURN);
        due("A = X is true", 602, Code.of(0x1d, 0, 1, 0), STORE, LOAD, RETURN);
        due("A > X is false", 602, Code.of(0x2d, 1, 0, 0), STORE, LOAD, RETURN);
        due("A >= X is true", 602, Code.of(0x3d, 0, 1, 0), STORE, LOAD, RETURN);
        due("(A and X) is 0", 602, Code.of(0x4d, 1, 0, 0), STORE, LOAD, RETURN);
    }

    // "none after 06 and 16"
    private static void noWayBehindAnEnd() {
        for (long end : new long[] {Code.of(0x06, 0), RETURN}) {
            due("no way to the load", 0, end, LOAD, RETURN);
            due("no way to the store", 603, Code.of(0x15, 0, 2, 0), end, STORE, LOAD, RETURN);
            due("no way over the end", 0, Code.of(0x15, 0, 1, 0), end, STORE, LOAD, RETURN);
        }
    }

    // "dividing by X = 0 ends the run", but the next one may come: a way goes on behind 3C
    private static void divisionByXIsNoEnd() {
        due("3C goes on", 601, Code.of(0x3c, 0), LOAD, RETURN);
        due("3C goes on where X is 0", 602, Code.of(0x01, 0), Code.of(0x3c, 0), LOAD, RETURN);
        due("3C as the last", 500, Code.of(0x3c, 0));
    }

    // "0 when the program has an instruction and none has a fault"
    private static void zeroWithoutFault() {
        due("one instruction", 0, RETURN);
        long[] full = new long[64];
        Arrays.fill(full, ADD);
        full[63] = RETURN;
        due("64 instructions", 0, full);
    }

    // "100 * EMPTY when it has none."
    private static void emptyProgram() {
        due("none", 100);
        CallFilter x = Code.filter(RETURN);
        ANSWERS.due("one", 0, x.check());
        x.cut(1);
        ANSWERS.due("none any more", 100, x.check());
    }

    // "none has a fault (also of those to which no way leads"
    private static void unreachedHaveFaultsToo() {
        due("CODE behind the end", 201, RETURN, UNKNOWN, RETURN);
        due("OPERAND behind the end", 301, RETURN, BAD_OPERAND, RETURN);
        due("JUMP behind the end", 401, RETURN, BAD_JUMP, RETURN);
        due("END behind the end", 501, RETURN, ADD);
        due("CODE skipped", 201, Code.of(0x05, 1), UNKNOWN, RETURN);
    }

    // "these are never UNSET)"
    private static void unreachedAreNeverUnset() {
        due("behind the end", 0, RETURN, LOAD, RETURN);
        due("skipped", 0, Code.of(0x05, 1), Code.of(0x61, 1), RETURN);
        due("behind a jump to which no way leads", 0, RETURN, Code.of(0x15, 0, 1, 0), LOAD, Code.of(0x61, 2), RETURN);
        due("the reached one is told", 602, Code.of(0x05, 1), Code.of(0x61, 1), LOAD, RETURN);
        due("a way that is none takes nothing away", 0, STORE, Code.of(0x05, 2), ADD, Code.of(0x05, 0), LOAD, RETURN);
    }

    // "of the least instruction that has a fault CODE, OPERAND or JUMP"
    private static void leastOfCodeOperandJump() {
        long[] faulty = {UNKNOWN, BAD_OPERAND, BAD_JUMP};
        int[] faults = {200, 300, 400};
        for (int i = 0; i < 3; i++) {
            for (int j = 0; j < 3; j++) {
                due("two faults", faults[i] + 1, ADD, faulty[i], ADD, faulty[j], RETURN);
                due("two faults side by side", faults[i], faulty[i], faulty[j], RETURN);
            }
        }
    }

    // "if there is none, of the last one if it has the fault END"
    private static void endBehindCodeOperandJump() {
        due("CODE and END", 200, UNKNOWN, ADD);
        due("OPERAND and END", 300, BAD_OPERAND, ADD);
        due("JUMP and END", 400, BAD_JUMP, ADD);
        due("CODE and END in one", 201, ADD, UNKNOWN);
        due("OPERAND and END in one", 301, ADD, BAD_OPERAND);
        due("JUMP and END in one", 401, ADD, BAD_JUMP);
        due("END alone", 501, ADD, ADD);
    }

    // "if not, of the least one with UNSET"
    private static void unsetBehindEnd() {
        due("UNSET before CODE", 201, LOAD, UNKNOWN, RETURN);
        due("UNSET before OPERAND", 301, LOAD, BAD_OPERAND, RETURN);
        due("UNSET before JUMP", 401, LOAD, BAD_JUMP, RETURN);
        due("UNSET before END", 501, LOAD, ADD);
        due("UNSET and END in one", 500, LOAD);
        due("UNSET alone", 600, LOAD, RETURN);
    }

    // "of the least one with UNSET"
    private static void leastUnset() {
        due("two loads", 601, ADD, Code.of(0x61, 3), Code.of(0x60, 3), RETURN);
        due("two words", 602, Code.of(0x02, 5), Code.of(0x60, 5), Code.of(0x60, 6), Code.of(0x60, 7), RETURN);
        due("behind two ways", 602, Code.of(0x15, 1, 0, 0), Code.of(0x05, 1), Code.of(0x61, 0), Code.of(0x60, 0),
            RETURN);
    }

    // "100 * fault + number of instruction"
    private static void numbersOfInstructions() {
        for (int place = 0; place < 63; place++) {
            long[] program = new long[64];
            Arrays.fill(program, ADD);
            program[63] = RETURN;
            program[place] = UNKNOWN;
            due("CODE at " + place, 100 * CallFilter.CODE + place, program);
            program[place] = BAD_OPERAND;
            due("OPERAND at " + place, 100 * CallFilter.OPERAND + place, program);
            program[place] = BAD_JUMP;
            due("JUMP at " + place, 100 * CallFilter.JUMP + place, program);
            program[place] = LOAD;
            due("UNSET at " + place, 100 * CallFilter.UNSET + place, program);
            due("END at " + place, 100 * CallFilter.END + place, Arrays.copyOf(fill(ADD), place + 1));
        }
        due("CODE at 63", 263, fill(UNKNOWN, 63));
        due("OPERAND at 63", 363, fill(BAD_OPERAND, 63));
        due("JUMP at 63", 463, fill(BAD_JUMP, 63));
        due("END at 63", 563, fill(ADD));
    }

    private static long[] fill(long instruction) {
        long[] program = new long[64];
        Arrays.fill(program, instruction);
        return program;
    }

    private static long[] fill(long faulty, int place) {
        long[] program = fill(ADD);
        program[place] = faulty;
        return program;
    }

    // "in a program of n instructions": n changes by put() and cut()
    private static void checkLooksAtTheProgramAsItIs() {
        CallFilter x = Code.filter(Code.of(0x05, 1), RETURN);
        ANSWERS.due("a skip beyond", 400, x.check());
        x.put(RETURN);
        ANSWERS.due("the skip has its goal", 0, x.check());
        x.put(UNKNOWN);
        ANSWERS.due("a fault behind", 203, x.check());
        x.cut(1);
        ANSWERS.due("without it", 0, x.check());
        x.cut(1);
        ANSWERS.due("without the goal", 400, x.check());
    }

    // "on which scratch word k is not stored": by this program, not by an earlier run
    private static void checkLooksAtNoRun() {
        CallFilter x = Code.filter(STORE, LOAD, RETURN);
        x.run();
        Code.replace(x, LOAD, RETURN);
        ANSWERS.due("stored by an earlier run", 600, x.check());
        Code.replace(x, STORE, LOAD, RETURN);
        ANSWERS.due("stored by the program", 0, x.check());
        Code.replace(x, Code.of(0x05, 1), STORE, LOAD, RETURN);
        ANSWERS.due("stored by an earlier program", 602, x.check());
    }

    private static void checkChangesNothing() {
        for (Scene scene : Scene.values()) {
            CallFilter x = scene.object();
            int first = x.check();
            ANSWERS.due(scene + ": check() again", first, x.check());
            ANSWERS.due(scene + ": after check()", Portrait.whole(scene.object()), Portrait.whole(x));
        }
    }
}
