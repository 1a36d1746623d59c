import java.util.function.Consumer;

/** Promises 14 (run), 15 (steps) and 16 (scratch), and the 512 calls. Over each test its sentence. */
public final class RunTest {
    private static final Answers ANSWERS = new Answers();
    private static final long RETURN = Code.of(0x16, 0);
    private static final long MOST = 0xffffffffL;

    /** One program for each fault, with a good end before the fault where there is a way to one. */
    private static final long[][] FAULTY = {
        {},
        {Code.of(0x06, 1), Code.of(0x08, 0), RETURN},
        {Code.of(0x06, 1), Code.of(0x34, 0), RETURN},
        {Code.of(0x06, 1), Code.of(0x05, 9), RETURN},
        {Code.of(0x06, 1), Code.of(0x00, 1)},
        {Code.of(0x15, 1, 0, 0), Code.of(0x60, 1), RETURN}};

    public static void main(String[] args) {
        runAnswersItsValue();
        runHasNoSign();
        rulesAreNotInTheProgram();
        noneOfAFaultyProgram();
        noneWithoutRunning();
        runChangesNothingElse();
        runAfterTheFaultIsMended();

        stepsOfTheLatestRun();
        stepsCountTheOneThatEnded();
        stepsAtTheirLeastAndMost();
        stepsWithoutRun();
        stepsOfARefusedRun();
        laterChangesLeaveStepsAndScratch();

        scratchAtTheEndOfTheRun();
        scratchHasNoSign();
        scratchOfZero();
        scratchNotStored();
        scratchOfAnEarlierRun();
        scratchOnTheWayTakenAlone();
        scratchOfARefusedRun();
        scratchBelowAndAbove();
        askingChangesNothing();

        the512thCall();
        ANSWERS.finish();
    }

    // "Runs the program (what put() gave ..) on the record: its value"
    private static void runAnswersItsValue() {
        CallFilter x = Code.filter(Code.of(0x20, 0), Code.of(0x24, 3), RETURN);
        x.word(0, 5);
        ANSWERS.due("run()", 15, x.run());
        x.word(0, 6);
        ANSWERS.due("on another record", 18, x.run());
        x.cut(1);
        x.put(Code.of(0x04, 1));
        x.put(RETURN);
        ANSWERS.due("another program", 19, x.run());
    }

    // "its value, without sign": 2^32 - 1 is not NONE
    private static void runHasNoSign() {
        for (long v : new long[] {0, 1, 0x7fffffffL, 0x80000000L, MOST - 1, MOST}) {
            CallFilter x = Code.filter(Code.of(0x06, v));
            ANSWERS.due("06 with " + v, v, x.run());
            ANSWERS.due("its steps", 1, x.steps());
            ANSWERS.due("16 with " + v, v, Code.filter(Code.of(0x00, v), RETURN).run());
        }
    }

    // "(.. rules are not in it)"
    private static void rulesAreNotInTheProgram() {
        CallFilter x = new CallFilter(0);
        x.rule(0, 9, 3, 1);
        x.otherwise(true, 2, 2);
        ANSWERS.due("length()", 0, x.length());
        ANSWERS.due("check()", 100, x.check());
        ANSWERS.due("run()", CallFilter.NONE, x.run());
        x.put(Code.of(0x06, 4));
        ANSWERS.due("run()", 4, x.run());
        ANSWERS.due("decide()", 0x50001L, x.decide());
        ANSWERS.due("steps()", 1, x.steps());
        x.word(1, 1);
        ANSWERS.due("run() on a foreign record", 4, x.run());
    }

    // "NONE, without running, when check() is not 0"
    private static void noneOfAFaultyProgram() {
        for (int i = 0; i < FAULTY.length; i++) {
            CallFilter x = Code.filter(FAULTY[i]);
            ANSWERS.due("the fault", i + 1, x.check() / 100);
            ANSWERS.due("run() with fault " + (i + 1), CallFilter.NONE, x.run());
            ANSWERS.due("steps()", 0, x.steps());
        }
    }

    // "NONE, without running": nothing but the latest run's steps and scratch is another afterwards
    private static void noneWithoutRunning() {
        for (Scene scene : new Scene[] {Scene.NEW, Scene.CHANGED, Scene.REFUSED}) {
            CallFilter x = scene.object();
            ANSWERS.due(scene + ": run()", CallFilter.NONE, x.run());
            ANSWERS.due(scene + ": run() again", CallFilter.NONE, x.run());
            ANSWERS.due(scene + ": steps()", 0, x.steps());
            for (int i = 0; i < 16; i++) {
                ANSWERS.due(scene + ": scratch(" + i + ")", CallFilter.NONE, x.scratch(i));
            }
            ANSWERS.due(scene + ": after run()", Portrait.withoutTheLatestRun(scene.object()),
                Portrait.withoutTheLatestRun(x));
        }
    }

    private static void runChangesNothingElse() {
        for (Scene scene : new Scene[] {Scene.USED, Scene.FULL}) {
            CallFilter x = scene.object();
            x.run();
            x.run();
            ANSWERS.due(scene + ": after two runs more", Portrait.whole(scene.object()), Portrait.whole(x));
        }
    }

    private static void runAfterTheFaultIsMended() {
        CallFilter x = Code.filter(Code.of(0x00, 7), Code.of(0x02, 1));
        ANSWERS.due("without end", CallFilter.NONE, x.run());
        x.put(RETURN);
        ANSWERS.due("with its end", 7, x.run());
        ANSWERS.due("steps()", 3, x.steps());
        ANSWERS.due("scratch(1)", 7, x.scratch(1));
    }

    // "How many instructions were done in the latest run"
    private static void stepsOfTheLatestRun() {
        CallFilter x = Code.filter(Code.of(0x20, 0), Code.of(0x15, 2, 0, 4), Code.of(0x00, 2), Code.of(0x04, 1),
            RETURN);
        ANSWERS.due("run()", 3, x.run());
        ANSWERS.due("the longer way", 5, x.steps());
        x.word(0, 4);
        ANSWERS.due("run()", 4, x.run());
        ANSWERS.due("the shorter way", 3, x.steps());
        ANSWERS.due("asked again", 3, x.steps());
    }

    // "the one that ended it too"
    private static void stepsCountTheOneThatEnded() {
        long[][] ends = {{Code.of(0x06, 1), RETURN}, {RETURN, RETURN}, {Code.of(0x3c, 0), RETURN}};
        for (long[] end : ends) {
            CallFilter x = Code.filter(Code.of(0x04, 1), Code.of(0x05, 0), end[0], end[1]);
            x.run();
            ANSWERS.due("steps()", 3, x.steps());
        }
    }

    // The same sentence: a run does at least one instruction, and at most the 64 of the program.
    private static void stepsAtTheirLeastAndMost() {
        CallFilter x = Code.filter(RETURN);
        x.run();
        ANSWERS.due("the least", 1, x.steps());
        CallFilter y = new CallFilter(0);
        for (int i = 0; i < 63; i++) {
            y.put(Code.of(0x05, 0));
        }
        y.put(RETURN);
        y.run();
        ANSWERS.due("the most", 64, y.steps());
        y.cut(1);
        y.put(Code.of(0x06, 3));
        ANSWERS.due("run()", 3, y.run());
        ANSWERS.due("the most again", 64, y.steps());
    }

    // "0 when there was no run yet"
    private static void stepsWithoutRun() {
        CallFilter x = new CallFilter(0);
        ANSWERS.due("new", 0, x.steps());
        x.put(RETURN);
        ANSWERS.due("with a program", 0, x.steps());
        x.check();
        ANSWERS.due("checked", 0, x.steps());
        x.decide();
        ANSWERS.due("decided", 0, x.steps());
        x.run();
        ANSWERS.due("run", 1, x.steps());
    }

    // "or the latest call of run answered NONE"
    private static void stepsOfARefusedRun() {
        for (long[] faulty : FAULTY) {
            CallFilter x = Code.filter(Code.of(0x02, 1), RETURN);
            x.run();
            ANSWERS.due("run", 2, x.steps());
            Code.replace(x, faulty);
            ANSWERS.due("not run again", 2, x.steps());
            x.run();
            ANSWERS.due("refused", 0, x.steps());
            Code.replace(x, RETURN);
            ANSWERS.due("mended, not run", 0, x.steps());
            x.run();
            ANSWERS.due("run again", 1, x.steps());
        }
    }

    // "(what changes later leaves it)"
    private static void laterChangesLeaveStepsAndScratch() {
        leavesTheLatestRun("word()", x -> x.word(0, 5));
        leavesTheLatestRun("argument()", x -> x.argument(0, 5));
        leavesTheLatestRun("rule()", x -> x.rule(0, 9, 0, 0));
        leavesTheLatestRun("condition()", x -> x.condition(0, 0, 5, 0));
        leavesTheLatestRun("otherwise()", x -> x.otherwise(false, 0, 0));
        leavesTheLatestRun("withdraw()", CallFilter::withdraw);
        leavesTheLatestRun("put()", x -> x.put(Code.of(0x08, 0)));
        leavesTheLatestRun("cut()", x -> x.cut(1));
        leavesTheLatestRun("cut(all)", x -> x.cut(x.length()));
        leavesTheLatestRun("another program", x -> Code.replace(x, Code.of(0x02, 5), RETURN));
        leavesTheLatestRun("check() of a fault", x -> {
            x.cut(1);
            x.check();
        });
    }

    private static void leavesTheLatestRun(String what, Consumer<CallFilter> change) {
        CallFilter x = Scene.USED.object();
        change.accept(x);
        ANSWERS.due("steps() after " + what, 7, x.steps());
        for (int i = 0; i < 16; i++) {
            long want = i == 0 ? 4 : i == 15 ? MOST : CallFilter.NONE;
            ANSWERS.due("scratch(" + i + ") after " + what, want, x.scratch(i));
        }
    }

    // "Scratch word i at the end of the latest run"
    private static void scratchAtTheEndOfTheRun() {
        CallFilter x = new CallFilter(0);
        for (int i = 0; i < 16; i++) {
            x.put(Code.of(0x00, i + 100));
            x.put(Code.of(0x02, i));
        }
        x.put(Code.of(0x02, 0));
        x.put(Code.of(0x01, 9));
        x.put(Code.of(0x03, 7));
        x.put(RETURN);
        x.run();
        for (int i = 0; i < 16; i++) {
            ANSWERS.due("scratch(" + i + ")", i == 0 ? 115 : i == 7 ? 9 : i + 100, x.scratch(i));
        }
    }

    // "without sign": 2^32 - 1 is not NONE
    private static void scratchHasNoSign() {
        for (long v : new long[] {0x7fffffffL, 0x80000000L, MOST - 1, MOST}) {
            CallFilter x = Code.filter(Code.of(0x00, v), Code.of(0x02, 0), Code.of(0x01, v), Code.of(0x03, 15), RETURN);
            x.run();
            ANSWERS.due("scratch(0)", v, x.scratch(0));
            ANSWERS.due("scratch(15)", v, x.scratch(15));
        }
    }

    // "(0 as well, if that was stored)"
    private static void scratchOfZero() {
        for (int i = 0; i < 16; i++) {
            for (int store : new int[] {0x02, 0x03}) {
                CallFilter x = Code.filter(Code.of(store, i), RETURN);
                x.run();
                ANSWERS.due("scratch(" + i + ") of 0", 0, x.scratch(i));
            }
        }
    }

    // "NONE when that run did not store it"
    private static void scratchNotStored() {
        for (int stored = 0; stored < 16; stored++) {
            CallFilter x = Code.filter(Code.of(0x04, 5), Code.of(0x02, stored), RETURN);
            x.run();
            for (int i = 0; i < 16; i++) {
                ANSWERS.due("scratch(" + i + ")", i == stored ? 5 : CallFilter.NONE, x.scratch(i));
            }
        }
    }

    // "that run": not one before it
    private static void scratchOfAnEarlierRun() {
        CallFilter x = Code.filter(Code.of(0x04, 5), Code.of(0x02, 3), RETURN);
        x.run();
        Code.replace(x, Code.of(0x02, 1), RETURN);
        ANSWERS.due("before the later run", 5, x.scratch(3));
        x.run();
        ANSWERS.due("of the earlier run", CallFilter.NONE, x.scratch(3));
        ANSWERS.due("of the later run", 0, x.scratch(1));
        Code.replace(x, RETURN);
        x.run();
        for (int i = 0; i < 16; i++) {
            ANSWERS.due("scratch(" + i + ") of none", CallFilter.NONE, x.scratch(i));
        }
    }

    // "that run did not store it": the way it took
    private static void scratchOnTheWayTakenAlone() {
        CallFilter x = Code.filter(Code.of(0x20, 0), Code.of(0x15, 0, 2, 1), Code.of(0x02, 1), RETURN,
            Code.of(0x02, 2), RETURN);
        x.word(0, 1);
        x.run();
        ANSWERS.due("stored", 1, x.scratch(1));
        ANSWERS.due("on the other way", CallFilter.NONE, x.scratch(2));
        x.word(0, 5);
        x.run();
        ANSWERS.due("on the other way", CallFilter.NONE, x.scratch(1));
        ANSWERS.due("stored", 5, x.scratch(2));
    }

    // "NONE when .. steps() is 0"
    private static void scratchOfARefusedRun() {
        for (long[] faulty : FAULTY) {
            CallFilter x = Scene.USED.object();
            Code.replace(x, faulty);
            ANSWERS.due("before the refused run", MOST, x.scratch(15));
            x.run();
            for (int i = 0; i < 16; i++) {
                ANSWERS.due("scratch(" + i + ") of a refused run", CallFilter.NONE, x.scratch(i));
            }
        }
    }

    // "or i is not 0 .. 15"
    private static void scratchBelowAndAbove() {
        CallFilter x = new CallFilter(0);
        for (int i = 0; i < 16; i++) {
            x.put(Code.of(0x02, i));
        }
        x.put(RETURN);
        x.run();
        ANSWERS.due("scratch(0)", 0, x.scratch(0));
        ANSWERS.due("scratch(15)", 0, x.scratch(15));
        int[] outside = {-1, -2, -16, -17, -32, Integer.MIN_VALUE, 16, 17, 31, 32, 47, 48, Integer.MAX_VALUE};
        for (int i : outside) {
            ANSWERS.due("scratch(" + i + ")", CallFilter.NONE, x.scratch(i));
        }
        for (int i = 0; i < 16; i++) {
            ANSWERS.due("scratch(" + i + ") after them", 0, x.scratch(i));
        }
    }

    private static void askingChangesNothing() {
        for (Scene scene : Scene.values()) {
            CallFilter x = scene.object();
            for (int i = -1; i <= 16; i++) {
                x.scratch(i);
            }
            x.steps();
            ANSWERS.due(scene + ": after steps() and scratch()", Portrait.whole(scene.object()), Portrait.whole(x));
        }
    }

    // "An object is used for at most 512 calls after it has been made": the 512th is answered like the first.
    private static void the512thCall() {
        CallFilter x = new CallFilter(0);
        int calls = 0;
        while (calls < 500) {
            int k = calls;
            ANSWERS.due("put()", true, x.put(Code.of(0x06, k)));
            ANSWERS.due("run()", k, x.run());
            ANSWERS.due("cut()", 0, x.cut(1));
            ANSWERS.due("rule()", 0, x.rule(0, k, 2, k));
            ANSWERS.due("withdraw()", 0, x.withdraw());
            calls += 5;
        }
        ANSWERS.due("call 501", 0, x.rule(0, 0, 3, 9));
        ANSWERS.due("call 502", true, x.condition(5, 0, 1, 0));
        ANSWERS.due("call 503", true, x.put(Code.of(0x20, 56)));
        ANSWERS.due("call 504", true, x.put(Code.of(0x02, 15)));
        ANSWERS.due("call 505", true, x.put(RETURN));
        ANSWERS.due("call 506", true, x.argument(5, 1));
        ANSWERS.due("call 507", 0x50009L, x.decide());
        ANSWERS.due("call 508", 0, x.ruling());
        ANSWERS.due("call 509", 0, x.check());
        ANSWERS.due("call 510", 1, x.run());
        ANSWERS.due("call 511", 3, x.steps());
        ANSWERS.due("call 512", 1, x.scratch(15));
    }
}
