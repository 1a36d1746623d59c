/** Promises 10 (put), 11 (cut) and 12 (length). */
public final class ProgramTest {
    private static final Answers ANSWERS = new Answers();

    public static void main(String[] args) {
        sixtyFourInstructionsAreTaken();
        anyNumberIsTaken();
        cutTakesTheLast();
        wrongCutsAreRefused();
        aFullProgramRuns();
        ANSWERS.finish();
    }

    private static void sixtyFourInstructionsAreTaken() {
        CallFilter x = new CallFilter(0);
        for (int i = 0; i < 64; i++) {
            ANSWERS.due("length", i, x.length());
            ANSWERS.due("put " + i, true, x.put(Code.of(0x04, 1)));
        }
        ANSWERS.due("length", 64, x.length());
        ANSWERS.due("put 64", false, x.put(Code.of(0x06, 1)));
        ANSWERS.due("length", 64, x.length());
        ANSWERS.due("the last is what it was", 563, x.check());
        ANSWERS.due("cut", 63, x.cut(1));
        ANSWERS.due("room for one", true, x.put(Code.of(0x16, 0)));
        ANSWERS.due("and no more", false, x.put(Code.of(0x16, 0)));
        ANSWERS.due("run", 63, x.run());
    }

    private static void anyNumberIsTaken() {
        CallFilter x = new CallFilter(0);
        long[] numbers = {0, -1, Long.MIN_VALUE, Long.MAX_VALUE, 0xffff};
        for (long number : numbers) {
            ANSWERS.due("put " + number, true, x.put(number));
        }
        ANSWERS.due("length", 5, x.length());
        ANSWERS.due("the first that is none", 201, x.check());
    }

    private static void cutTakesTheLast() {
        CallFilter x = Code.filter(Code.of(0x00, 5), Code.of(0x04, 7), Code.of(0x16, 0), Code.of(0x06, 9));
        ANSWERS.due("cut 0", 4, x.cut(0));
        ANSWERS.due("cut 1", 3, x.cut(1));
        ANSWERS.due("length", 3, x.length());
        ANSWERS.due("run", 12, x.run());
        ANSWERS.due("cut 2", 1, x.cut(2));
        ANSWERS.due("put", true, x.put(Code.of(0x16, 0)));
        ANSWERS.due("the first is still there", 5, x.run());
        ANSWERS.due("cut all", 0, x.cut(2));
        ANSWERS.due("check", 100, x.check());
        ANSWERS.due("cut 0 of none", 0, x.cut(0));
    }

    private static void wrongCutsAreRefused() {
        CallFilter x = Code.filter(Code.of(0x00, 5), Code.of(0x16, 0));
        for (int n : new int[] {-1, 3, 64, Integer.MIN_VALUE, Integer.MAX_VALUE}) {
            ANSWERS.due("cut " + n, -1, x.cut(n));
        }
        ANSWERS.due("length", 2, x.length());
        ANSWERS.due("run", 5, x.run());
        CallFilter y = new CallFilter(0);
        ANSWERS.due("cut 1 of none", -1, y.cut(1));
        ANSWERS.due("cut -1 of none", -1, y.cut(-1));
        ANSWERS.due("length", 0, y.length());
    }

    private static void aFullProgramRuns() {
        CallFilter x = new CallFilter(0);
        for (int i = 0; i < 63; i++) {
            x.put(Code.of(0x04, 2));
        }
        x.put(Code.of(0x16, 0));
        ANSWERS.due("run", 126, x.run());
        ANSWERS.due("steps", 64, x.steps());
    }
}
