/** Promises 1 (a new object), 2 (word) and 3 (argument). */
public final class RecordTest {
    private static final Answers ANSWERS = new Answers();

    public static void main(String[] args) {
        aNewObject();
        aNewObjectOfAnyArchitecture();
        wordsAreKept();
        wordsOutsideAreRefused();
        argumentsAreTwoWords();
        argumentsOutsideAreRefused();
        wordsMakeArguments();
        ANSWERS.finish();
    }

    private static void aNewObject() {
        CallFilter x = new CallFilter(0);
        ANSWERS.due("new: length", 0, x.length());
        ANSWERS.due("new: check", 100, x.check());
        ANSWERS.due("new: steps", 0, x.steps());
        for (int i = -1; i <= 16; i++) {
            ANSWERS.due("new: scratch " + i, -1, x.scratch(i));
        }
        ANSWERS.due("new: decide is kind 6", 0x7fff0000L, x.decide());
        ANSWERS.due("new: ruling", -1, x.ruling());
        ANSWERS.due("new: withdraw", -1, x.withdraw());
        ANSWERS.due("new: run", -1, x.run());
        x.word(1, 1);
        ANSWERS.due("new: decide on a foreign record is kind 0", 0x80000000L, x.decide());
        ANSWERS.due("new: ruling on a foreign record", -2, x.ruling());
        CallFilter y = new CallFilter(0);
        for (int i = 0; i < 16; i++) {
            ANSWERS.due("new: word " + i, 0, Code.wordOf(y, i));
        }
    }

    private static void aNewObjectOfAnyArchitecture() {
        for (int architecture : new int[] {1, -1, 0xc000003e, Integer.MIN_VALUE, Integer.MAX_VALUE}) {
            CallFilter x = new CallFilter(architecture);
            ANSWERS.due("a record of zeros is foreign to " + architecture, -2, x.ruling());
            ANSWERS.due("its action", 0x80000000L, x.decide());
            x.word(1, architecture);
            ANSWERS.due("its own architecture " + architecture, -1, x.ruling());
            ANSWERS.due("its action", 0x7fff0000L, x.decide());
        }
    }

    private static void wordsAreKept() {
        CallFilter x = new CallFilter(0);
        for (int i = 0; i < 16; i++) {
            ANSWERS.due("word " + i, true, x.word(i, 1000 + i));
        }
        for (int i = 0; i < 16; i++) {
            ANSWERS.due("word kept " + i, 1000 + i, Code.wordOf(x, i));
        }
        x.word(15, -1);
        ANSWERS.due("a word has no sign", 0xffffffffL, Code.wordOf(x, 15));
        x.word(15, Integer.MIN_VALUE);
        ANSWERS.due("a word has no sign", 0x80000000L, Code.wordOf(x, 15));
        ANSWERS.due("its neighbour stays", 1014, Code.wordOf(x, 14));
    }

    private static void wordsOutsideAreRefused() {
        CallFilter x = new CallFilter(0);
        for (int i : new int[] {-1, 16, 17, Integer.MIN_VALUE, Integer.MAX_VALUE}) {
            ANSWERS.due("word " + i, false, x.word(i, 5));
        }
        for (int i = 0; i < 16; i++) {
            ANSWERS.due("word untouched " + i, 0, Code.wordOf(x, i));
        }
    }

    private static void argumentsAreTwoWords() {
        CallFilter x = new CallFilter(0);
        for (int i = 0; i < 6; i++) {
            ANSWERS.due("argument " + i, true, x.argument(i, (200L + i) << 32 | (100 + i)));
        }
        for (int i = 0; i < 4; i++) {
            ANSWERS.due("words before the arguments " + i, 0, Code.wordOf(x, i));
        }
        for (int i = 0; i < 6; i++) {
            ANSWERS.due("lower half " + i, 100 + i, Code.wordOf(x, 4 + 2 * i));
            ANSWERS.due("higher half " + i, 200 + i, Code.wordOf(x, 5 + 2 * i));
        }
        x.argument(3, 0x00000001ffffffffL);
        ANSWERS.due("lower half", 0xffffffffL, Code.wordOf(x, 10));
        ANSWERS.due("higher half", 1, Code.wordOf(x, 11));
        x.argument(3, -1L << 32);
        ANSWERS.due("lower half", 0, Code.wordOf(x, 10));
        ANSWERS.due("higher half", 0xffffffffL, Code.wordOf(x, 11));
    }

    private static void argumentsOutsideAreRefused() {
        CallFilter x = new CallFilter(0);
        for (int i : new int[] {-1, -2, 6, 7, Integer.MIN_VALUE, Integer.MAX_VALUE, 1 << 31}) {
            ANSWERS.due("argument " + i, false, x.argument(i, -1));
        }
        for (int i = 0; i < 16; i++) {
            ANSWERS.due("word untouched " + i, 0, Code.wordOf(x, i));
        }
    }

    private static void wordsMakeArguments() {
        CallFilter x = new CallFilter(0);
        x.rule(0, 0, 1, 0);
        x.condition(2, 0, 0x80000001ffffffffL, 0);
        x.word(8, -1);
        ANSWERS.due("half an argument", -1, x.ruling());
        x.word(9, 0x80000001);
        ANSWERS.due("the argument of both words", 0, x.ruling());
    }
}
