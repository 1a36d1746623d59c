import java.util.ArrayList;
import java.util.HashMap;
import java.util.List;
import java.util.Map;

/**
 * The document once more, written another way: numbers without sign as long, lists, and for UNSET a search
 * for a way on which the word is not stored, one search for each load.
 */
final class Model {
    private static final long SPAN = 1L << 32;
    private static final List<Integer> PLAIN = List.of(
        0x00, 0x20, 0x60, 0x80, 0x01, 0x61, 0x81, 0x02, 0x03, 0x07, 0x87, 0x84, 0x05, 0x06, 0x16);
    private static final List<Integer> WITH_K_OR_X = List.of(
        0x04, 0x14, 0x24, 0x34, 0x44, 0x54, 0xa4, 0x64, 0x74, 0x15, 0x25, 0x35, 0x45);

    private record Condition(int argument, int operator, long value, long mask) {
    }

    private record Rule(int from, int to, int kind, int data, List<Condition> conditions) {
    }

    private final long architecture;
    private final long[] words = new long[16];
    private final List<Rule> rules = new ArrayList<>();
    private final List<Long> program = new ArrayList<>();
    private final Map<Integer, Long> scratch = new HashMap<>();
    private long defaultWord = wordOf(6, 0);
    private long foreignWord = wordOf(0, 0);
    private int steps = 0;

    Model(int architecture) {
        this.architecture = Integer.toUnsignedLong(architecture);
    }

    boolean word(int i, int v) {
        if (i < 0 || i > 15) {
            return false;
        }
        words[i] = Integer.toUnsignedLong(v);
        return true;
    }

    boolean argument(int i, long v) {
        return i >= 0 && i <= 5 && word(4 + 2 * i, (int) v) && word(5 + 2 * i, (int) (v >> 32));
    }

    int rule(int from, int to, int kind, int data) {
        if (from < 0 || from > to || to >= 1 << 30 || !isAction(kind, data) || rules.size() == 6) {
            return -1;
        }
        rules.add(new Rule(from, to, kind, data, new ArrayList<>()));
        return rules.size() - 1;
    }

    boolean condition(int i, int operator, long value, long mask) {
        if (rules.isEmpty() || i < 0 || i > 5 || operator < 0 || operator > 6) {
            return false;
        }
        List<Condition> conditions = rules.get(rules.size() - 1).conditions();
        return conditions.size() < 3 && conditions.add(new Condition(i, operator, value, mask));
    }

    boolean otherwise(boolean foreign, int kind, int data) {
        if (!isAction(kind, data)) {
            return false;
        }
        if (foreign) {
            foreignWord = wordOf(kind, data);
        } else {
            defaultWord = wordOf(kind, data);
        }
        return true;
    }

    int withdraw() {
        if (rules.isEmpty()) {
            return -1;
        }
        rules.remove(rules.size() - 1);
        return rules.size();
    }

    long decide() {
        int taken = ruling();
        return taken == -2 ? foreignWord : taken == -1 ? defaultWord
            : wordOf(rules.get(taken).kind(), rules.get(taken).data());
    }

    int ruling() {
        if (words[1] != architecture || words[0] >= 1L << 30) {
            return -2;
        }
        for (int kind = 0; kind <= 6; kind++) {
            for (int i = 0; i < rules.size(); i++) {
                if (rules.get(i).kind() == kind && matches(rules.get(i))) {
                    return i;
                }
            }
        }
        return -1;
    }

    boolean put(long instruction) {
        return program.size() < 64 && program.add(instruction);
    }

    int cut(int n) {
        if (n < 0 || n > program.size()) {
            return -1;
        }
        program.subList(program.size() - n, program.size()).clear();
        return program.size();
    }

    int length() {
        return program.size();
    }

    int check() {
        int n = program.size();
        if (n == 0) {
            return 100;
        }
        for (int i = 0; i < n; i++) {
            if (!isCode(code(i))) {
                return 200 + i;
            }
            if (isOperandWrong(code(i), k(i))) {
                return 300 + i;
            }
            for (long next : nexts(i)) {
                if (isJump(code(i)) && next >= n) {
                    return 400 + i;
                }
            }
        }
        if (!nexts(n - 1).isEmpty()) {
            return 500 + n - 1;
        }
        for (int i = 0; i < n; i++) {
            if ((code(i) == 0x60 || code(i) == 0x61) && isReachedWithout(k(i), i)) {
                return 600 + i;
            }
        }
        return 0;
    }

    long run() {
        steps = 0;
        scratch.clear();
        if (check() != 0) {
            return -1;
        }
        long a = 0;
        long x = 0;
        int i = 0;
        while (true) {
            steps++;
            int code = code(i);
            long k = k(i);
            long y = WITH_K_OR_X.contains(code) ? k : x;
            int base = WITH_K_OR_X.contains(code) ? code : code - 8;
            long jump = 0;
            switch (code) {
                case 0x06: return k;
                case 0x16: return a;
                case 0x00: a = k; break;
                case 0x20: a = words[(int) k / 4]; break;
                case 0x60: a = scratch.get((int) k); break;
                case 0x80: a = 64; break;
                case 0x01: x = k; break;
                case 0x61: x = scratch.get((int) k); break;
                case 0x81: x = 64; break;
                case 0x02: scratch.put((int) k, a); break;
                case 0x03: scratch.put((int) k, x); break;
                case 0x07: x = a; break;
                case 0x87: a = x; break;
                case 0x84: a = (SPAN - a) % SPAN; break;
                case 0x05: jump = k; break;
                default:
                    if (base == 0x34 && y == 0) {
                        return 0;
                    }
                    if (isJump(code)) {
                        jump = isTrue(base, a, y) ? jt(i) : jf(i);
                    } else {
                        a = computed(base, a, y);
                    }
            }
            i += 1 + (int) jump;
        }
    }

    int steps() {
        return steps;
    }

    long scratch(int i) {
        return scratch.getOrDefault(i, -1L);
    }

    private static boolean isAction(int kind, int data) {
        return kind >= 0 && kind <= 6 && data >= 0 && data <= 65535;
    }

    private static long wordOf(int kind, int data) {
        switch (kind) {
            case 0: return 0x80000000L;
            case 1: return 0;
            case 2: return 0x30000L + data;
            case 3: return 0x50000L + data;
            case 4: return 0x7ff00000L + data;
            case 5: return 0x7ffc0000L;
            default: return 0x7fff0000L;
        }
    }

    private boolean matches(Rule rule) {
        return words[0] >= rule.from() && words[0] <= rule.to()
            && rule.conditions().stream().allMatch(this::holds);
    }

    private boolean holds(Condition c) {
        long x = words[5 + 2 * c.argument()] * SPAN + words[4 + 2 * c.argument()];
        int order = Long.compareUnsigned(x, c.value());
        switch (c.operator()) {
            case 0: return order == 0;
            case 1: return order != 0;
            case 2: return order < 0;
            case 3: return order <= 0;
            case 4: return order > 0;
            case 5: return order >= 0;
            default: return (x & c.mask()) == c.value();
        }
    }

    private int code(int i) {
        return (int) (program.get(i) & 0xffff);
    }

    private int jt(int i) {
        return (int) (program.get(i) >> 16 & 0xff);
    }

    private int jf(int i) {
        return (int) (program.get(i) >> 24 & 0xff);
    }

    private long k(int i) {
        return program.get(i) >>> 32;
    }

    private static boolean isCode(int code) {
        return PLAIN.contains(code) || WITH_K_OR_X.contains(code) || WITH_K_OR_X.contains(code - 8);
    }

    private static boolean isJump(int code) {
        return code % 8 == 5;
    }

    private static boolean isOperandWrong(int code, long k) {
        switch (code) {
            case 0x20: return k > 60 || k % 4 != 0;
            case 0x60: case 0x61: case 0x02: case 0x03: return k > 15;
            case 0x34: return k == 0;
            case 0x64: case 0x74: return k > 31;
            default: return false;
        }
    }

    private List<Long> nexts(int i) {
        long next = i + 1L;
        if (code(i) == 0x06 || code(i) == 0x16) {
            return List.of();
        }
        if (code(i) == 0x05) {
            return List.of(next + k(i));
        }
        return isJump(code(i)) ? List.of(next + jt(i), next + jf(i)) : List.of(next);
    }

    private boolean isReachedWithout(long cell, int load) {
        boolean[] seen = new boolean[program.size()];
        List<Integer> open = new ArrayList<>(List.of(0));
        while (!open.isEmpty()) {
            int i = open.remove(open.size() - 1);
            boolean stores = (code(i) == 0x02 || code(i) == 0x03) && k(i) == cell;
            if (i == load) {
                return true;
            }
            if (!seen[i] && !stores) {
                nexts(i).forEach(next -> open.add(next.intValue()));
            }
            seen[i] = true;
        }
        return false;
    }

    private static boolean isTrue(int code, long a, long y) {
        switch (code) {
            case 0x15: return a == y;
            case 0x25: return a > y;
            case 0x35: return a >= y;
            default: return (a & y) != 0;
        }
    }

    private static long computed(int code, long a, long y) {
        switch (code) {
            case 0x04: return (a + y) % SPAN;
            case 0x14: return (SPAN + a - y) % SPAN;
            case 0x24: return a * y & SPAN - 1;
            case 0x34: return a / y;
            case 0x44: return a | y;
            case 0x54: return a & y;
            case 0xa4: return a ^ y;
            case 0x64: return (a << y % 32) % SPAN;
            default: return a >> y % 32;
        }
    }
}
