/** Terms: RECORD. Promises 1 (a new object), 2 (word) and 3 (argument). Over each test its sentence. */
public final class RecordTest {
    private static final Answers ANSWERS = new Answers();
    private static final Refusals REFUSED = new Refusals(ANSWERS);
    private static final int[] ANY = {0, 1, Integer.MAX_VALUE, Integer.MIN_VALUE, -1};
    private static final int LAST_NUMBER = (1 << 30) - 1;

    public static void main(String[] args) {
        sixteenWordsOf32Bits();
        numberAndArchitecture();
        halvesOfArguments();
        theNumberHasNoSign();
        theArchitectureHasNoSign();
        argumentsHaveNoSign();
        wordsHaveNoSign();
        theRecordIsKept();
        thePolicyIsAppliedToTheRecordAsItIs();
        theProgramIsAppliedToTheRecordAsItIs();

        theArchitectureOfTheConstructor();
        newWithoutRules();
        newDefaultAction();
        newForeignAction();
        newRecordOfZeros();
        newWithoutProgram();
        newWithoutRun();
        objectsAreApart();

        wordBecomes();
        wordBelow();
        wordAbove();

        argumentBecomes();
        argumentBelow();
        argumentAbove();
        ANSWERS.finish();
    }

    // "RECORD: 16 words of 32 bits"
    private static void sixteenWordsOf32Bits() {
        for (int changed = 0; changed < 16; changed++) {
            CallFilter x = new CallFilter(0);
            for (int i = 0; i < 16; i++) {
                x.word(i, 1000 + i);
            }
            x.word(changed, -1);
            for (int i = 0; i < 16; i++) {
                long want = i == changed ? 0xffffffffL : 1000 + i;
                ANSWERS.due("word " + i + " after a change of " + changed, want, Code.wordOf(x, i));
            }
        }
    }

    // "word 0 its NUMBER, word 1 the ARCHITECTURE, words 2 and 3 the place it comes from"
    private static void numberAndArchitecture() {
        for (int i = 0; i < 16; i++) {
            CallFilter x = new CallFilter(0);
            x.rule(3, 3, 1, 0);
            x.word(i, 3);
            int want = i == 0 ? 0 : i == 1 ? CallFilter.FOREIGN : CallFilter.NONE;
            ANSWERS.due("ruling() with 3 in word " + i, want, x.ruling());
        }
    }

    // "words 4 + 2 i and 5 + 2 i the lower and the higher half of ARGUMENT i (0 .. 5), a number of 64 bits"
    private static void halvesOfArguments() {
        for (int i = 0; i < 6; i++) {
            for (int word = 2; word < 16; word++) {
                CallFilter x = new CallFilter(0);
                x.rule(0, 0, 1, 0);
                x.condition(i, 0, 0x80000001L, 0);
                x.word(word, 0x80000001);
                ANSWERS.due("lower half of " + i + " in word " + word, word == 4 + 2 * i ? 0 : -1, x.ruling());
                x.withdraw();
                x.rule(0, 0, 1, 0);
                x.condition(i, 0, 0x80000001L << 32, 0);
                ANSWERS.due("higher half of " + i + " in word " + word, word == 5 + 2 * i ? 0 : -1, x.ruling());
            }
        }
    }

    // "All these are without sign."
    private static void theNumberHasNoSign() {
        CallFilter x = new CallFilter(0);
        for (int number : new int[] {-1, Integer.MIN_VALUE, Integer.MIN_VALUE + LAST_NUMBER}) {
            x.word(0, number);
            ANSWERS.due("the number " + number + " is great", CallFilter.FOREIGN, x.ruling());
        }
    }

    // "All these are without sign."
    private static void theArchitectureHasNoSign() {
        CallFilter x = new CallFilter(-1);
        x.word(1, -1);
        ANSWERS.due("architecture 2^32 - 1", CallFilter.NONE, x.ruling());
        ANSWERS.due("as a program sees it", 0xffffffffL, Code.wordOf(x, 1));
        x.word(1, Integer.MAX_VALUE);
        ANSWERS.due("architecture 2^31 - 1", CallFilter.FOREIGN, x.ruling());
    }

    // "All these are without sign."
    private static void argumentsHaveNoSign() {
        CallFilter x = new CallFilter(0);
        x.rule(0, 0, 1, 0);
        x.condition(0, 4, Long.MAX_VALUE, 0);
        for (long v : new long[] {-1, Long.MIN_VALUE}) {
            x.argument(0, v);
            ANSWERS.due("the argument " + v + " is above 2^63 - 1", 0, x.ruling());
        }
        x.argument(0, Long.MAX_VALUE);
        ANSWERS.due("2^63 - 1 is not", -1, x.ruling());
    }

    // "All these are without sign."
    private static void wordsHaveNoSign() {
        for (int i = 0; i < 16; i++) {
            CallFilter x = new CallFilter(0);
            for (int v : ANY) {
                x.word(i, v);
                ANSWERS.due("word " + i, v & 0xffffffffL, Code.wordOf(x, i));
            }
        }
    }

    // "The record is kept"
    private static void theRecordIsKept() {
        CallFilter x = new CallFilter(0);
        for (int i = 0; i < 16; i++) {
            x.word(i, 1000 + i);
        }
        x.decide();
        x.rule(0, LAST_NUMBER, 1, 0);
        x.condition(0, 0, 5, 7);
        x.ruling();
        x.otherwise(true, 2, 5);
        x.check();
        x.run();
        Code.replace(x, Code.of(0x02, 4), Code.of(0x03, 5), Code.of(0x3c, 0), Code.of(0x16, 0));
        x.check();
        x.run();
        x.steps();
        x.scratch(4);
        x.withdraw();
        for (int i = 0; i < 16; i++) {
            ANSWERS.due("word " + i + " after use", 1000 + i, Code.wordOf(x, i));
        }
    }

    // "policy and program are applied to it as it is"
    private static void thePolicyIsAppliedToTheRecordAsItIs() {
        CallFilter x = new CallFilter(0);
        x.argument(0, 8);
        x.rule(0, 0, 1, 0);
        x.condition(0, 0, 8, 0);
        ANSWERS.due("a record that was there first", 0, x.ruling());
        ANSWERS.due("asked again", 0, x.ruling());
        x.argument(0, 9);
        ANSWERS.due("the argument changed", -1, x.ruling());
        x.word(4, 8);
        ANSWERS.due("changed back by its word", 0, x.ruling());
        x.word(0, 1);
        ANSWERS.due("the number changed", -1, x.ruling());
        x.word(1, 1);
        ANSWERS.due("the architecture changed", -2, x.ruling());
    }

    // "policy and program are applied to it as it is"
    private static void theProgramIsAppliedToTheRecordAsItIs() {
        CallFilter x = new CallFilter(5);
        x.word(15, 6);
        Code.replace(x, Code.of(0x20, 60), Code.of(0x16, 0));
        ANSWERS.due("a record that was there first, and foreign", 6, x.run());
        x.argument(5, 7L << 32);
        ANSWERS.due("changed", 7, x.run());
        ANSWERS.due("run again", 7, x.run());
    }

    // "The architecture of the policy"
    private static void theArchitectureOfTheConstructor() {
        for (int architecture : ANY) {
            CallFilter x = new CallFilter(architecture);
            for (int other : ANY) {
                x.word(1, other);
                int want = other == architecture ? CallFilter.NONE : CallFilter.FOREIGN;
                ANSWERS.due("architecture " + other + " for " + architecture, want, x.ruling());
            }
        }
    }

    // "no rules"
    private static void newWithoutRules() {
        ANSWERS.due("new: ruling()", CallFilter.NONE, new CallFilter(0).ruling());
        ANSWERS.due("new: withdraw()", CallFilter.NONE, new CallFilter(0).withdraw());
        ANSWERS.due("new: the first rule", 0, new CallFilter(0).rule(0, 0, 0, 0));
    }

    // "the default action is kind 6 .. with data 0"
    private static void newDefaultAction() {
        ANSWERS.due("new: decide()", 0x7fff0000L, new CallFilter(0).decide());
    }

    // "the foreign action kind 0, both with data 0"
    private static void newForeignAction() {
        ANSWERS.due("new, foreign: decide()", 0x80000000L, new CallFilter(1).decide());
        ANSWERS.due("new, foreign: ruling()", CallFilter.FOREIGN, new CallFilter(1).ruling());
    }

    // "a record of zeros"
    private static void newRecordOfZeros() {
        for (int architecture : ANY) {
            CallFilter x = new CallFilter(architecture);
            for (int i = 0; i < 16; i++) {
                ANSWERS.due("new: word " + i, 0, Code.wordOf(x, i));
            }
        }
    }

    // "no program"
    private static void newWithoutProgram() {
        CallFilter x = new CallFilter(0);
        ANSWERS.due("new: length()", 0, x.length());
        ANSWERS.due("new: check()", 100 * CallFilter.EMPTY, x.check());
        ANSWERS.due("new: cut(1)", CallFilter.NONE, x.cut(1));
        ANSWERS.due("new: cut(0)", 0, x.cut(0));
        ANSWERS.due("new: run()", CallFilter.NONE, x.run());
    }

    // Promises 15 and 16: "0 when there was no run yet", "NONE when .. steps() is 0"
    private static void newWithoutRun() {
        CallFilter x = new CallFilter(0);
        ANSWERS.due("new: steps()", 0, x.steps());
        for (int i = -1; i <= 16; i++) {
            ANSWERS.due("new: scratch(" + i + ")", CallFilter.NONE, x.scratch(i));
        }
    }

    private static void objectsAreApart() {
        CallFilter before = new CallFilter(0);
        Scene.FULL.object();
        Scene.USED.object();
        ANSWERS.due("new, beside others", Portrait.whole(Scene.NEW.object()), Portrait.whole(before));
    }

    // "Word i of the record becomes v: true"
    private static void wordBecomes() {
        for (int i = 0; i < 16; i++) {
            CallFilter x = new CallFilter(0);
            for (int v : ANY) {
                ANSWERS.due("word(" + i + ", " + v + ")", true, x.word(i, v));
                ANSWERS.due("word " + i, v & 0xffffffffL, Code.wordOf(x, i));
            }
        }
    }

    // "false, changing nothing, when i is not 0 .. 15"
    private static void wordBelow() {
        ANSWERS.due("word(0)", true, new CallFilter(0).word(0, 5));
        for (int i : new int[] {-1, -2, -16, Integer.MIN_VALUE, Integer.MIN_VALUE + 1}) {
            REFUSED.falseInAll("word(" + i + ")", x -> x.word(i, 5));
        }
    }

    // "false, changing nothing, when i is not 0 .. 15"
    private static void wordAbove() {
        ANSWERS.due("word(15)", true, new CallFilter(0).word(15, 5));
        for (int i : new int[] {16, 17, 31, 32, 256, Integer.MAX_VALUE}) {
            REFUSED.falseInAll("word(" + i + ")", x -> x.word(i, 5));
        }
    }

    // "Argument i of the record becomes v (its 64 bits): true"
    private static void argumentBecomes() {
        long[] values = {0, 1, 0x00000001ffffffffL, -1L << 32, 0x7fffffff80000000L, Long.MAX_VALUE,
            Long.MIN_VALUE, -1};
        for (int i = 0; i < 6; i++) {
            for (long v : values) {
                CallFilter x = Scene.USED.object();
                ANSWERS.due("argument(" + i + ", " + v + ")", true, x.argument(i, v));
                for (int word = 2; word < 16; word++) {
                    long want = word == 4 + 2 * i ? v & 0xffffffffL : word == 5 + 2 * i ? v >>> 32 : 1000 + word;
                    ANSWERS.due("word " + word + " after argument(" + i + ", " + v + ")", want,
                        Code.wordOf(x, word));
                }
            }
        }
    }

    // "false, changing nothing, when i is not 0 .. 5"
    private static void argumentBelow() {
        ANSWERS.due("argument(0)", true, new CallFilter(0).argument(0, 5));
        for (int i : new int[] {-1, -2, -6, Integer.MIN_VALUE, Integer.MIN_VALUE + 1}) {
            REFUSED.falseInAll("argument(" + i + ")", x -> x.argument(i, 5L << 32 | 5));
        }
    }

    // "false, changing nothing, when i is not 0 .. 5"
    private static void argumentAbove() {
        ANSWERS.due("argument(5)", true, new CallFilter(0).argument(5, 5));
        for (int i : new int[] {6, 7, 16, 1 << 30, Integer.MAX_VALUE}) {
            REFUSED.falseInAll("argument(" + i + ")", x -> x.argument(i, 5L << 32 | 5));
        }
    }
}
