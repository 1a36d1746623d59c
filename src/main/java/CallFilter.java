/**
 * Decides what becomes of calls to a system by a policy of rules, and checks and runs programs of a
 * small filter machine on the same record of a call.
 */
public final class CallFilter {
    public static final int NONE = -1;
    public static final int FOREIGN = -2;
    public static final int EMPTY = 1;
    public static final int CODE = 2;
    public static final int OPERAND = 3;
    public static final int JUMP = 4;
    public static final int END = 5;
    public static final int UNSET = 6;

    private static final int FAULT_UNIT = 100;

    private final Call call;
    private final Policy policy;
    private final Program program;
    private final Checker checker;
    private final Machine machine;

    public CallFilter(int architecture) {
        call = new Call();
        policy = new Policy(architecture);
        program = new Program();
        checker = new Checker();
        machine = new Machine();
    }

    public boolean word(int i, int v) {
        if (i < 0 || i >= Call.WORDS) {
            return false;
        }
        call.words[i] = v;
        return true;
    }

    public boolean argument(int i, long v) {
        if (!Call.hasArgument(i)) {
            return false;
        }
        call.setArgument(i, v);
        return true;
    }

    public int rule(int from, int to, int kind, int data) {
        boolean numbersFit = 0 <= from && from <= to && to < Call.NUMBERS;
        if (!numbersFit || !Action.isPossible(kind, data) || policy.count >= Policy.RULES) {
            return NONE;
        }
        return policy.add(from, to, kind, data);
    }

    public boolean condition(int i, int operator, long value, long mask) {
        if (!Call.hasArgument(i) || !Condition.isOperator(operator) || policy.count == 0) {
            return false;
        }
        Rule last = policy.rules[policy.count - 1];
        if (last.count >= Rule.CONDITIONS) {
            return false;
        }
        last.add(i, operator, value, mask);
        return true;
    }

    public boolean otherwise(boolean foreign, int kind, int data) {
        if (!Action.isPossible(kind, data)) {
            return false;
        }
        Action changed = foreign ? policy.foreignAction : policy.defaultAction;
        changed.become(kind, data);
        return true;
    }

    public int withdraw() {
        if (policy.count == 0) {
            return NONE;
        }
        policy.count--;
        return policy.count;
    }

    public long decide() {
        return policy.actionOf(policy.chooseFor(call)).asWord();
    }

    public int ruling() {
        return policy.chooseFor(call);
    }

    public boolean put(long instruction) {
        if (program.count >= Program.INSTRUCTIONS) {
            return false;
        }
        program.instructions[program.count] = instruction;
        program.count++;
        return true;
    }

    public int cut(int n) {
        if (n < 0 || n > program.count) {
            return NONE;
        }
        program.count -= n;
        return program.count;
    }

    public int length() {
        return program.count;
    }

    public int check() {
        return checker.verdictOn(program);
    }

    public long run() {
        if (checker.verdictOn(program) != 0) {
            machine.forget();
            return NONE;
        }
        return machine.execute(program, call);
    }

    public int steps() {
        return machine.done;
    }

    public long scratch(int i) {
        if (i < 0 || i >= Machine.CELLS || !machine.hasStored(i)) {
            return NONE;
        }
        return unsigned(machine.cells[i]);
    }

    private static long unsigned(int v) {
        return v & 0xffffffffL;
    }

    /** The record of a call. */
    private static final class Call {
        static final int WORDS = 16;
        static final int ARGUMENTS = 6;
        static final int NUMBERS = 1 << 30;

        private static final int NUMBER = 0;
        private static final int ARCHITECTURE = 1;
        private static final int FIRST_ARGUMENT = 4;

        final int[] words = new int[WORDS];

        static boolean hasArgument(int i) {
            return 0 <= i && i < ARGUMENTS;
        }

        void setArgument(int i, long v) {
            int lower = FIRST_ARGUMENT + 2 * i;
            words[lower] = (int) v;
            words[lower + 1] = (int) (v >>> 32);
        }

        long getArgument(int i) {
            int lower = FIRST_ARGUMENT + 2 * i;
            return unsigned(words[lower]) | unsigned(words[lower + 1]) << 32;
        }

        int number() {
            return words[NUMBER];
        }

        boolean isForeignTo(int architecture) {
            return words[ARCHITECTURE] != architecture || unsigned(number()) >= NUMBERS;
        }
    }

    private static final class Action {
        private static final long[] KIND_WORDS = {
            0x80000000L, 0L, 0x30000L, 0x50000L, 0x7ff00000L, 0x7ffc0000L, 0x7fff0000L
        };
        private static final int LEAST_STRICT = 6;
        private static final int MOST_DATA = 65535;
        private static final int FIRST_KIND_WITH_DATA = 2;
        private static final int LAST_KIND_WITH_DATA = 4;

        int kind;
        private int data;

        Action(int kind) {
            this.kind = kind;
        }

        static boolean isPossible(int kind, int data) {
            return 0 <= kind && kind <= LEAST_STRICT && 0 <= data && data <= MOST_DATA;
        }

        void become(int newKind, int newData) {
            kind = newKind;
            data = newData;
        }

        long asWord() {
            boolean tellsData = FIRST_KIND_WITH_DATA <= kind && kind <= LAST_KIND_WITH_DATA;
            return KIND_WORDS[kind] + (tellsData ? data : 0);
        }
    }

    private static final class Condition {
        private static final int OPERATORS = 7;

        private int place;
        private int operator;
        private long value;
        private long mask;

        static boolean isOperator(int operator) {
            return 0 <= operator && operator < OPERATORS;
        }

        void become(int newPlace, int newOperator, long newValue, long newMask) {
            place = newPlace;
            operator = newOperator;
            value = newValue;
            mask = newMask;
        }

        boolean holdsFor(Call call) {
            long x = call.getArgument(place);
            switch (operator) {
                case 0:
                    return x == value;
                case 1:
                    return x != value;
                case 2:
                    return isBelow(x, value);
                case 3:
                    return !isBelow(value, x);
                case 4:
                    return isBelow(value, x);
                case 5:
                    return !isBelow(x, value);
                default:
                    return (x & mask) == value;
            }
        }

        /** Turning the highest bit over makes Java's order with sign the order without it. */
        private static boolean isBelow(long x, long y) {
            long highest = 1L << 63;
            return (x ^ highest) < (y ^ highest);
        }
    }

    private static final class Rule {
        static final int CONDITIONS = 3;

        final Action action = new Action(0);
        int count;
        private int from;
        private int to;
        private final Condition[] conditions = new Condition[CONDITIONS];

        Rule() {
            for (int i = 0; i < CONDITIONS; i++) {
                conditions[i] = new Condition();
            }
        }

        void become(int newFrom, int newTo, int kind, int data) {
            from = newFrom;
            to = newTo;
            action.become(kind, data);
            count = 0;
        }

        void add(int place, int operator, long value, long mask) {
            conditions[count].become(place, operator, value, mask);
            count++;
        }

        boolean matches(Call call) {
            if (call.number() < from || call.number() > to) {
                return false;
            }
            for (int i = 0; i < count; i++) {
                if (!conditions[i].holdsFor(call)) {
                    return false;
                }
            }
            return true;
        }
    }

    private static final class Policy {
        static final int RULES = 6;

        final Action defaultAction = new Action(6);
        final Action foreignAction = new Action(0);
        final Rule[] rules = new Rule[RULES];
        int count;
        private final int architecture;

        Policy(int architecture) {
            this.architecture = architecture;
            for (int i = 0; i < RULES; i++) {
                rules[i] = new Rule();
            }
        }

        int add(int from, int to, int kind, int data) {
            rules[count].become(from, to, kind, data);
            count++;
            return count - 1;
        }

        /** The number of the rule that is taken, or NONE or FOREIGN. */
        int chooseFor(Call call) {
            if (call.isForeignTo(architecture)) {
                return FOREIGN;
            }
            int chosen = NONE;
            for (int i = 0; i < count; i++) {
                if (rules[i].matches(call) && isStricter(i, chosen)) {
                    chosen = i;
                }
            }
            return chosen;
        }

        private boolean isStricter(int i, int chosen) {
            return chosen == NONE || rules[i].action.kind < rules[chosen].action.kind;
        }

        Action actionOf(int choice) {
            if (choice == FOREIGN) {
                return foreignAction;
            }
            return choice == NONE ? defaultAction : rules[choice].action;
        }
    }

    private static final class Program {
        static final int INSTRUCTIONS = 64;

        final long[] instructions = new long[INSTRUCTIONS];
        int count;
    }

    /** Takes instructions apart and tells their codes' families. */
    private static final class Instruction {
        static final int LOAD_RECORD = 0x20;
        static final int DIVIDE_BY_K = 0x34;
        static final int SHIFT_LEFT_BY_K = 0x64;
        static final int SHIFT_RIGHT_BY_K = 0x74;
        static final int SKIP = 0x05;
        static final int END_WITH_K = 0x06;
        static final int X_FROM_A = 0x07;

        static int codeOf(long instruction) {
            return (int) (instruction & 0xffff);
        }

        static int distanceIfTrue(long instruction) {
            return (int) (instruction >>> 16 & 0xff);
        }

        static int distanceIfFalse(long instruction) {
            return (int) (instruction >>> 24 & 0xff);
        }

        static long operandOf(long instruction) {
            return instruction >>> 32;
        }

        static boolean isKnown(int code) {
            switch (code) {
                case 0x00: case 0x20: case 0x60: case 0x80:
                case 0x01: case 0x61: case 0x81:
                case 0x02: case 0x03:
                case 0x07: case 0x87:
                case 0x05:
                    return true;
                default:
                    return isArithmetic(code) || isConditional(code) || endsRun(code);
            }
        }

        private static boolean isArithmetic(int code) {
            switch (code) {
                case 0x04: case 0x14: case 0x24: case 0x34: case 0x44:
                case 0x54: case 0x64: case 0x74: case 0x84: case 0xa4:
                case 0x0c: case 0x1c: case 0x2c: case 0x3c: case 0x4c:
                case 0x5c: case 0x6c: case 0x7c: case 0xac:
                    return true;
                default:
                    return false;
            }
        }

        static boolean isConditional(int code) {
            switch (code) {
                case 0x15: case 0x25: case 0x35: case 0x45:
                case 0x1d: case 0x2d: case 0x3d: case 0x4d:
                    return true;
                default:
                    return false;
            }
        }

        static boolean endsRun(int code) {
            return code == END_WITH_K || code == 0x16;
        }

        static boolean loadsCell(int code) {
            return code == 0x60 || code == 0x61;
        }

        static boolean storesCell(int code) {
            return code == 0x02 || code == 0x03;
        }
    }

    private static final class Checker {
        private static final int ALL_CELLS = 0xffff;

        /** For each instruction a bit for every cell that is stored on all ways to it. */
        private final int[] surelyStored = new int[Program.INSTRUCTIONS];

        int verdictOn(Program program) {
            if (program.count == 0) {
                return FAULT_UNIT * EMPTY;
            }
            for (int i = 0; i < program.count; i++) {
                int fault = ownFault(program, i);
                if (fault != 0) {
                    return FAULT_UNIT * fault + i;
                }
            }
            int last = program.count - 1;
            if (!Instruction.endsRun(Instruction.codeOf(program.instructions[last]))) {
                return FAULT_UNIT * END + last;
            }
            int unset = leastUnset(program);
            return unset == NONE ? 0 : FAULT_UNIT * UNSET + unset;
        }

        private static int ownFault(Program program, int i) {
            long instruction = program.instructions[i];
            int code = Instruction.codeOf(instruction);
            if (!Instruction.isKnown(code)) {
                return CODE;
            }
            if (!isOperandFit(code, Instruction.operandOf(instruction))) {
                return OPERAND;
            }
            return longestSkip(code, instruction) > program.count - 1 - i ? JUMP : 0;
        }

        private static boolean isOperandFit(int code, long k) {
            if (Instruction.loadsCell(code) || Instruction.storesCell(code)) {
                return k < Machine.CELLS;
            }
            switch (code) {
                case Instruction.LOAD_RECORD:
                    return k % 4 == 0 && k < 4 * Call.WORDS;
                case Instruction.DIVIDE_BY_K:
                    return k != 0;
                case Instruction.SHIFT_LEFT_BY_K:
                case Instruction.SHIFT_RIGHT_BY_K:
                    return k < 32;
                default:
                    return true;
            }
        }

        /** Counts the instruction itself; 0 for one that does not jump. */
        private static long longestSkip(int code, long instruction) {
            if (code == Instruction.SKIP) {
                return 1 + Instruction.operandOf(instruction);
            }
            if (!Instruction.isConditional(code)) {
                return 0;
            }
            int ifTrue = Instruction.distanceIfTrue(instruction);
            int ifFalse = Instruction.distanceIfFalse(instruction);
            return 1 + Math.max(ifTrue, ifFalse);
        }

        /**
         * One pass is enough because every way goes forward. Where no way has come, all cells count as
         * stored: such an instruction is never UNSET and takes nothing from those behind it.
         */
        private int leastUnset(Program program) {
            for (int i = 0; i < program.count; i++) {
                surelyStored[i] = ALL_CELLS;
            }
            surelyStored[0] = 0;
            for (int i = 0; i < program.count; i++) {
                long instruction = program.instructions[i];
                int code = Instruction.codeOf(instruction);
                int cell = 1 << (int) Instruction.operandOf(instruction);
                if (Instruction.loadsCell(code) && (surelyStored[i] & cell) == 0) {
                    return i;
                }
                int after = surelyStored[i] | (Instruction.storesCell(code) ? cell : 0);
                passOn(instruction, i + 1, after);
            }
            return NONE;
        }

        private void passOn(long instruction, int next, int stored) {
            int code = Instruction.codeOf(instruction);
            if (code == Instruction.SKIP) {
                surelyStored[next + (int) Instruction.operandOf(instruction)] &= stored;
            } else if (Instruction.isConditional(code)) {
                surelyStored[next + Instruction.distanceIfTrue(instruction)] &= stored;
                surelyStored[next + Instruction.distanceIfFalse(instruction)] &= stored;
            } else if (!Instruction.endsRun(code)) {
                surelyStored[next] &= stored;
            }
        }
    }

    /** Runs programs that the checker has found without fault, and no others. */
    private static final class Machine {
        static final int CELLS = 16;

        private static final int RECORD_BYTES = 64;
        private static final int FAMILY = 0x07;
        private static final int WITH_X = 0x08;
        private static final int OPERATION = 0xf0;

        final int[] cells = new int[CELLS];
        int done;
        private int storedCells;
        private int a;
        private int x;
        private int next;
        private boolean ended;
        private int result;

        void forget() {
            done = 0;
            storedCells = 0;
        }

        boolean hasStored(int i) {
            return (storedCells >>> i & 1) != 0;
        }

        /** Every jump goes forward, so no run does more instructions than the program has. */
        long execute(Program program, Call call) {
            begin();
            while (!ended && done < program.count && next < program.count) {
                long instruction = program.instructions[next];
                next++;
                done++;
                perform(instruction, call);
            }
            return unsigned(result);
        }

        private void begin() {
            forget();
            a = 0;
            x = 0;
            next = 0;
            ended = false;
            result = 0;
        }

        private void perform(long instruction, Call call) {
            int code = Instruction.codeOf(instruction);
            int k = (int) Instruction.operandOf(instruction);
            int y = (code & WITH_X) != 0 ? x : k;
            switch (code & FAMILY) {
                case 0:
                    a = load(code, k, call);
                    break;
                case 1:
                    x = load(code, k, call);
                    break;
                case 2:
                    store(k, a);
                    break;
                case 3:
                    store(k, x);
                    break;
                case 4:
                    compute(code & OPERATION, y);
                    break;
                case 5:
                    jump(instruction, code, y);
                    break;
                case 6:
                    end(code == Instruction.END_WITH_K ? k : a);
                    break;
                default:
                    copy(code);
                    break;
            }
        }

        private int load(int code, int k, Call call) {
            switch (code & OPERATION) {
                case 0x00:
                    return k;
                case 0x20:
                    return call.words[k / 4];
                case 0x60:
                    return cells[k];
                default:
                    return RECORD_BYTES;
            }
        }

        private void store(int k, int v) {
            cells[k] = v;
            storedCells |= 1 << k;
        }

        private void copy(int code) {
            if (code == Instruction.X_FROM_A) {
                x = a;
            } else {
                a = x;
            }
        }

        private void compute(int operation, int y) {
            switch (operation) {
                case 0x00:
                    a = a + y;
                    break;
                case 0x10:
                    a = a - y;
                    break;
                case 0x20:
                    a = a * y;
                    break;
                case 0x30:
                    divide(y);
                    break;
                case 0x40:
                    a = a | y;
                    break;
                case 0x50:
                    a = a & y;
                    break;
                case 0x60:
                    a = a << (y & 31);
                    break;
                case 0x70:
                    a = a >>> (y & 31);
                    break;
                case 0x80:
                    a = -a;
                    break;
                default:
                    a = a ^ y;
                    break;
            }
        }

        private void divide(int y) {
            if (y == 0) {
                end(0);
            } else {
                a = (int) (unsigned(a) / unsigned(y));
            }
        }

        private void jump(long instruction, int code, int y) {
            if (code == Instruction.SKIP) {
                next += y;
            } else if (passes(code & OPERATION, y)) {
                next += Instruction.distanceIfTrue(instruction);
            } else {
                next += Instruction.distanceIfFalse(instruction);
            }
        }

        private boolean passes(int test, int y) {
            switch (test) {
                case 0x10:
                    return a == y;
                case 0x20:
                    return unsigned(a) > unsigned(y);
                case 0x30:
                    return unsigned(a) >= unsigned(y);
                default:
                    return (a & y) != 0;
            }
        }

        private void end(int value) {
            ended = true;
            result = value;
        }
    }
}
