/** Promises 10 (put), 11 (cut) and 12 (length). Over each test its sentence. */
public final class ProgramTest {
    private static final Answers ANSWERS = new Answers();
    private static final Refusals REFUSED = new Refusals(ANSWERS);
    private static final long RETURN = Code.of(0x16, 0);

    public static void main(String[] args) {
        putAppends();
        putTakesAnyNumber();
        putBeyond64();

        cutTakesTheLast();
        cutOfNothing();
        cutOfAll();
        cutBelow();
        cutAbove();
        putAfterCut();

        lengthIsTheNumberOfInstructions();
        askingChangesNothing();
        ANSWERS.finish();
    }

    // "Appends an instruction .. to the program: true"
    private static void putAppends() {
        CallFilter x = new CallFilter(0);
        ANSWERS.due("put", true, x.put(Code.of(0x00, 5)));
        ANSWERS.due("put", true, x.put(Code.of(0x24, 7)));
        ANSWERS.due("put", true, x.put(Code.of(0x04, 1)));
        ANSWERS.due("put", true, x.put(RETURN));
        ANSWERS.due("in their order", 36, x.run());
    }

    // "(any number; check() looks at it)"
    private static void putTakesAnyNumber() {
        CallFilter x = new CallFilter(0);
        for (long number : new long[] {0, 1, -1, Long.MIN_VALUE, Long.MAX_VALUE, 0xffff, 1L << 32}) {
            ANSWERS.due("put(" + number + ")", true, x.put(number));
        }
        ANSWERS.due("length()", 7, x.length());
        ANSWERS.due("the first that is no instruction", 202, x.check());
    }

    // "false, changing nothing, when 64 are there"
    private static void putBeyond64() {
        CallFilter x = new CallFilter(0);
        for (int i = 0; i < 64; i++) {
            ANSWERS.due("put " + i, true, x.put(i == 63 ? RETURN : Code.of(0x04, 1)));
        }
        ANSWERS.due("put 64", false, x.put(Code.of(0x06, 1)));
        ANSWERS.due("length()", 64, x.length());
        ANSWERS.due("run()", 63, x.run());
        for (long instruction : new long[] {0, RETURN, Code.of(0x06, 1), -1}) {
            REFUSED.falseIn(Scene.FULL, "put(" + instruction + ")", y -> y.put(instruction));
        }
        x.cut(1);
        ANSWERS.due("room for one", true, x.put(Code.of(0x06, 1)));
        ANSWERS.due("and no more", false, x.put(RETURN));
        ANSWERS.due("run()", 1, x.run());
    }

    // "Takes the last n instructions of the program away; answers how many are left."
    private static void cutTakesTheLast() {
        for (int n = 0; n <= 4; n++) {
            CallFilter x = Code.filter(Code.of(0x04, 1), Code.of(0x04, 10), Code.of(0x04, 100), Code.of(0x04, 1000));
            ANSWERS.due("cut(" + n + ")", 4 - n, x.cut(n));
            ANSWERS.due("length()", 4 - n, x.length());
            x.put(RETURN);
            ANSWERS.due("the others are there", 1111 % (int) Math.pow(10, 4 - n), x.run());
        }
    }

    // "n is .. 0 .. length()": 0
    private static void cutOfNothing() {
        for (Scene scene : Scene.values()) {
            CallFilter x = scene.object();
            ANSWERS.due(scene + ": cut(0)", x.length(), x.cut(0));
            ANSWERS.due(scene + ": after cut(0)", Portrait.whole(scene.object()), Portrait.whole(x));
        }
    }

    // "n is .. 0 .. length()": length()
    private static void cutOfAll() {
        for (Scene scene : Scene.values()) {
            CallFilter x = scene.object();
            ANSWERS.due(scene + ": cut(length())", 0, x.cut(x.length()));
            ANSWERS.due(scene + ": length()", 0, x.length());
            ANSWERS.due(scene + ": check()", 100, x.check());
        }
    }

    // "NONE, changing nothing, when n is not 0 .. length()": below
    private static void cutBelow() {
        for (int n : new int[] {-1, -2, -64, Integer.MIN_VALUE}) {
            REFUSED.noneInAll("cut(" + n + ")", x -> x.cut(n));
        }
    }

    // "NONE, changing nothing, when n is not 0 .. length()": above
    private static void cutAbove() {
        REFUSED.noneInAll("cut(length() + 1)", x -> x.cut(x.length() + 1));
        for (int n : new int[] {65, 128, Integer.MAX_VALUE}) {
            REFUSED.noneInAll("cut(" + n + ")", x -> x.cut(n));
        }
    }

    private static void putAfterCut() {
        CallFilter x = Code.filter(Code.of(0x04, 1), Code.of(0x04, 10), Code.of(0x04, 100), RETURN);
        x.cut(3);
        ANSWERS.due("put", true, x.put(RETURN));
        ANSWERS.due("length()", 2, x.length());
        ANSWERS.due("run()", 1, x.run());
        ANSWERS.due("cut", 1, x.cut(1));
        ANSWERS.due("what was cut is not there", 500, x.check());
    }

    // "The number of instructions of the program."
    private static void lengthIsTheNumberOfInstructions() {
        CallFilter x = new CallFilter(0);
        for (int i = 0; i < 64; i++) {
            ANSWERS.due("length()", i, x.length());
            x.put(-1);
        }
        ANSWERS.due("length()", 64, x.length());
        for (int i = 63; i >= 0; i--) {
            x.cut(1);
            ANSWERS.due("length()", i, x.length());
        }
    }

    private static void askingChangesNothing() {
        for (Scene scene : Scene.values()) {
            CallFilter x = scene.object();
            for (int i = 0; i < 3; i++) {
                x.length();
            }
            ANSWERS.due(scene + ": after length()", Portrait.whole(scene.object()), Portrait.whole(x));
        }
    }
}
