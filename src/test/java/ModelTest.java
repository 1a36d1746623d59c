import java.util.Random;

/** All promises: long runs of calls, the same ones every time, on the class and on the model beside it. */
public final class ModelTest {
    private static final Answers ANSWERS = new Answers();
    private static final int OBJECTS = 3000;
    private static final int CALLS = 512;
    private static final int CALLS_OF_A_TURN = 5;
    private static final int[] EDGES = {
        -1, 0, 1, 2, 5, 6, 7, 15, 16, 63, 64, 65535, 65536, (1 << 30) - 1, 1 << 30,
        Integer.MAX_VALUE, Integer.MIN_VALUE};

    private final Random random;
    private final CallFilter x;
    private final Model model;
    private final String name;
    private final int architecture;
    private int calls = 0;
    private int runsDone = 0;
    private int matched = 0;

    private ModelTest(int seed) {
        random = new Random(seed);
        architecture = pick(0, 0, 1, -1);
        x = new CallFilter(architecture);
        model = new Model(architecture);
        name = "object " + seed + ": ";
    }

    public static void main(String[] args) {
        long runsDone = 0;
        long matched = 0;
        for (int seed = 0; seed < OBJECTS; seed++) {
            ModelTest test = new ModelTest(seed);
            while (test.calls + CALLS_OF_A_TURN <= CALLS) {
                test.turn();
            }
            runsDone += test.runsDone;
            matched += test.matched;
        }
        System.out.println(runsDone + " programs ran, " + matched + " rules were taken");
        // Runs of calls that never get to the heart of the matter would prove nothing.
        ANSWERS.due("enough programs ran", true, runsDone > 5L * OBJECTS);
        ANSWERS.due("enough rules were taken", true, matched > 2L * OBJECTS);
        ANSWERS.finish();
    }

    private void due(String call, long want, long got) {
        calls++;
        ANSWERS.due(name + call, want, got);
    }

    private void due(String call, boolean want, boolean got) {
        due(call, want ? 1 : 0, got ? 1 : 0);
    }

    private void turn() {
        switch (random.nextInt(20)) {
            case 0: case 1: setWord(); break;
            case 2: case 3: setArgument(); break;
            case 4: case 5: addRule(); break;
            case 6: case 7: addCondition(); break;
            case 8: setOtherwise(); break;
            case 9: takeBack(); break;
            case 10: case 11: askPolicy(); break;
            case 12: case 13: case 14: case 15: putOne(); break;
            case 16: cutSome(); break;
            case 17: runMended(); break;
            default: askProgram(); break;
        }
    }

    private void setWord() {
        int i = some(16);
        boolean atHome = i == 1 && random.nextInt(3) != 0;
        int v = atHome ? architecture : i < 2 ? pick(0, 1, 2, 3, 1 << 30, -1) : (int) number();
        due("word(" + i + ", " + v + ")", model.word(i, v), x.word(i, v));
    }

    private void setArgument() {
        int i = some(6);
        long v = number();
        due("argument(" + i + ", " + v + ")", model.argument(i, v), x.argument(i, v));
    }

    private void addRule() {
        int from = some(4);
        int to = some(5);
        int kind = some(7);
        int data = some(9);
        due("rule(" + from + ", " + to + ", " + kind + ", " + data + ")",
            model.rule(from, to, kind, data), x.rule(from, to, kind, data));
    }

    private void addCondition() {
        int i = some(6);
        int operator = some(7);
        long value = number();
        long mask = number();
        due("condition(" + i + ", " + operator + ", " + value + ", " + mask + ")",
            model.condition(i, operator, value, mask), x.condition(i, operator, value, mask));
    }

    private void setOtherwise() {
        boolean foreign = random.nextBoolean();
        int kind = some(7);
        int data = some(9);
        due("otherwise(" + foreign + ", " + kind + ", " + data + ")",
            model.otherwise(foreign, kind, data), x.otherwise(foreign, kind, data));
    }

    private void takeBack() {
        due("withdraw()", model.withdraw(), x.withdraw());
    }

    private void askPolicy() {
        if (random.nextBoolean()) {
            due("decide()", model.decide(), x.decide());
        } else {
            int ruling = x.ruling();
            matched += ruling >= 0 ? 1 : 0;
            due("ruling()", model.ruling(), ruling);
        }
    }

    private void putOne() {
        long instruction = instruction();
        due("put(" + instruction + ")", model.put(instruction), x.put(instruction));
    }

    private void cutSome() {
        cut(some(model.length() / 4 + 1));
    }

    private void cut(int n) {
        due("cut(" + n + ")", model.cut(n), x.cut(n));
    }

    /** A program of chance seldom runs: behind its least fault it is cut off, and ended. */
    private void runMended() {
        int verdict = model.check();
        if (verdict > 200 && verdict < 500 || verdict > 600) {
            cut(model.length() - verdict % 100);
        }
        for (int i = 0; i < 3; i++) {
            long end = Code.of(0x16, 0);
            due("put(" + end + ")", model.put(end), x.put(end));
        }
        run();
    }

    private void run() {
        due("run()", model.run(), x.run());
        runsDone += model.steps() > 2 ? 1 : 0;
    }

    private void askProgram() {
        int i = some(16);
        switch (random.nextInt(5)) {
            case 0: due("length()", model.length(), x.length()); break;
            case 1: due("check()", model.check(), x.check()); break;
            case 2: due("steps()", model.steps(), x.steps()); break;
            case 3: due("scratch(" + i + ")", model.scratch(i), x.scratch(i)); break;
            default: run(); break;
        }
    }

    private long instruction() {
        if (random.nextInt(200) == 0) {
            return random.nextLong();
        }
        boolean stores = random.nextInt(4) == 0;
        int code = stores ? pick(0x02, 0x03) : Code.ALL[random.nextInt(Code.ALL.length)];
        return Code.of(code, random.nextInt(3), random.nextInt(3), operand(code));
    }

    private long operand(int code) {
        if (random.nextInt(40) == 0) {
            return number() & 0xffffffffL;
        }
        switch (code) {
            case 0x20: return 4L * random.nextInt(16);
            case 0x60: case 0x61: case 0x02: case 0x03: return random.nextInt(3);
            case 0x05: return random.nextInt(3);
            case 0x34: return 1 + random.nextInt(5);
            case 0x64: case 0x74: return random.nextInt(32);
            default: return number() & 0xffffffffL;
        }
    }

    /** Mostly one of 0 .. n - 1, now and then an edge. */
    private int some(int n) {
        return random.nextInt(12) == 0 ? pick(EDGES) : random.nextInt(n);
    }

    private long number() {
        switch (random.nextInt(6)) {
            case 0: return random.nextLong();
            case 1: return pick(EDGES);
            case 2: return (long) pick(EDGES) << 32 | random.nextInt(2);
            default: return random.nextInt(3);
        }
    }

    private int pick(int... of) {
        return of[random.nextInt(of.length)];
    }
}
