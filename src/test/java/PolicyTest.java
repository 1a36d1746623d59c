/** Terms: POLICY. Promises 8 (decide) and 9 (ruling). Over each test its sentence. */
public final class PolicyTest {
    private static final Answers ANSWERS = new Answers();
    private static final int LAST_NUMBER = (1 << 30) - 1;
    private static final long[] KIND_WORDS = {
        0x80000000L, 0, 0x30000, 0x50000, 0x7ff00000, 0x7ffc0000, 0x7fff0000};

    public static void main(String[] args) {
        theLowerKindIsStricter();
        theWordsOfKinds();
        dataAreInTheWordsOfThreeKinds();
        dataAreNotInTheWordsOfOthers();
        rulesAreNumberedInTheirOrder();
        ruleMatchesItsNumbers();
        conditionsHoldWithoutSign();
        operatorsAtTheirEdge();
        operatorSix();
        allConditionsMustHold();
        foreignByArchitecture();
        foreignByNumber();
        foreignBeforeAllRules();
        strictestIsTaken();
        ofEquallyStrictTheFirst();
        defaultOnlyWhenNoneMatches();

        decideHasNoSign();
        decideAndRulingAgree();
        rulingTellsNoneAndForeign();
        askingChangesNothing();
        ANSWERS.finish();
    }

    // "the lower kind is the STRICTER one"
    private static void theLowerKindIsStricter() {
        for (int first = 0; first <= 6; first++) {
            for (int second = 0; second <= 6; second++) {
                CallFilter x = new CallFilter(0);
                x.rule(0, 0, first, 1);
                x.rule(0, 0, second, 2);
                int due = second < first ? 1 : 0;
                ANSWERS.due("kinds " + first + " and " + second, due, x.ruling());
            }
        }
    }

    private static void wordIsDue(int kind, int data, long due) {
        CallFilter x = new CallFilter(0);
        x.otherwise(false, kind, data);
        ANSWERS.due("default of kind " + kind + " data " + data, due, x.decide());
        x.rule(0, 0, kind, data);
        x.otherwise(false, kind == 6 ? 0 : 6, 0);
        ANSWERS.due("rule of kind " + kind + " data " + data, due, x.decide());
        x.otherwise(true, kind, data);
        x.word(1, 1);
        ANSWERS.due("foreign of kind " + kind + " data " + data, due, x.decide());
    }

    // "Its WORD is for kind 0 0x80000000, 1 0, 2 0x30000, 3 0x50000, 4 0x7ff00000, 5 0x7ffc0000, 6 0x7fff0000"
    private static void theWordsOfKinds() {
        for (int kind = 0; kind <= 6; kind++) {
            wordIsDue(kind, 0, KIND_WORDS[kind]);
        }
    }

    // "plus the data for the kinds 2, 3, 4 alone"
    private static void dataAreInTheWordsOfThreeKinds() {
        for (int kind = 2; kind <= 4; kind++) {
            for (int data : new int[] {1, 4660, 32768, 65535}) {
                wordIsDue(kind, data, KIND_WORDS[kind] + data);
            }
        }
    }

    // "(of others data may be told, and is not in the word)"
    private static void dataAreNotInTheWordsOfOthers() {
        for (int kind : new int[] {0, 1, 5, 6}) {
            for (int data : new int[] {1, 4660, 32768, 65535}) {
                wordIsDue(kind, data, KIND_WORDS[kind]);
            }
        }
    }

    // "There are at most 6 RULES, numbered from 0 in the order in which they were added"
    private static void rulesAreNumberedInTheirOrder() {
        int[] kinds = {5, 3, 4, 1, 6, 2};
        CallFilter x = new CallFilter(0);
        for (int i = 0; i < 6; i++) {
            x.rule(i, i, kinds[i], 0);
        }
        x.rule(6, 6, 0, 0);
        for (int i = 0; i < 6; i++) {
            x.word(0, i);
            ANSWERS.due("the rule for " + i, i, x.ruling());
        }
        x.word(0, 6);
        ANSWERS.due("a seventh is not there", CallFilter.NONE, x.ruling());
    }

    // "A rule MATCHES the record when the record's number is from .. to"
    private static void ruleMatchesItsNumbers() {
        int[][] rules = {{10, 20}, {10, 10}, {0, 0}, {0, 1}, {LAST_NUMBER, LAST_NUMBER}, {0, LAST_NUMBER},
            {LAST_NUMBER - 1, LAST_NUMBER - 1}};
        for (int[] r : rules) {
            CallFilter x = new CallFilter(0);
            x.rule(r[0], r[1], 1, 0);
            for (int number : new int[] {0, 1, 2, 9, 10, 11, 19, 20, 21, LAST_NUMBER - 1, LAST_NUMBER}) {
                x.word(0, number);
                int due = r[0] <= number && number <= r[1] ? 0 : -1;
                ANSWERS.due(r[0] + " .. " + r[1] + " on " + number, due, x.ruling());
            }
        }
    }

    // "operator 0 x = value, 1 x is not value, 2 x < value, .. 5 x >= value .. all of 64 bits, without sign"
    private static void conditionsHoldWithoutSign() {
        long[] values = {0, 1, 2, 0x7fffffffL, 0x80000000L, 0xffffffffL, 1L << 32, (1L << 32) + 1,
            Long.MAX_VALUE - 1, Long.MAX_VALUE, Long.MIN_VALUE, Long.MIN_VALUE + 1, -2, -1};
        for (int i = 0; i < values.length; i++) {
            for (int operator = 0; operator <= 5; operator++) {
                CallFilter x = new CallFilter(0);
                x.rule(0, 0, 1, 0);
                x.condition(1, operator, values[i], 0);
                for (int j = 0; j < values.length; j++) {
                    x.argument(1, values[j]);
                    // The values stand in rising order without sign, so their places tell their order.
                    boolean holds = holds(operator, j, i);
                    ANSWERS.due("operator " + operator + " on " + values[j] + " and " + values[i],
                        holds ? 0 : -1, x.ruling());
                }
            }
        }
    }

    private static boolean holds(int operator, int x, int value) {
        switch (operator) {
            case 0: return x == value;
            case 1: return x != value;
            case 2: return x < value;
            case 3: return x <= value;
            case 4: return x > value;
            default: return x >= value;
        }
    }

    // The same sentence: what is below 0 or above 2^64 - 1 is not there, so nothing wraps around.
    private static void operatorsAtTheirEdge() {
        conditionIsDue("x < 0", 2, 0, -1, -1, -1);
        conditionIsDue("x <= 0", 3, 0, 0, -1, -1);
        conditionIsDue("x > 0", 4, 0, -1, 0, 0);
        conditionIsDue("x >= 0", 5, 0, 0, 0, 0);
        conditionIsDue("x < 2^64 - 1", 2, -1, 0, 0, -1);
        conditionIsDue("x <= 2^64 - 1", 3, -1, 0, 0, 0);
        conditionIsDue("x > 2^64 - 1", 4, -1, -1, -1, -1);
        conditionIsDue("x >= 2^64 - 1", 5, -1, -1, -1, 0);
    }

    private static void conditionIsDue(String what, int operator, long value, int on0, int on1, int onMost) {
        CallFilter x = new CallFilter(0);
        x.rule(0, 0, 1, 0);
        x.condition(0, operator, value, 0);
        ANSWERS.due(what + " on 0", on0, x.ruling());
        x.argument(0, 1);
        ANSWERS.due(what + " on 1", on1, x.ruling());
        x.argument(0, -1);
        ANSWERS.due(what + " on 2^64 - 1", onMost, x.ruling());
    }

    // "6 (x and mask, bit by bit) = value"
    private static void operatorSix() {
        long[] numbers = {0, 1, 3, 0x80000000L, 0x100000000L, 0x8000000000000100L, 0x8000000000000f00L,
            0xf0000000000001ffL, Long.MAX_VALUE, Long.MIN_VALUE, -1};
        for (long mask : numbers) {
            for (long value : numbers) {
                CallFilter x = new CallFilter(0);
                x.rule(0, 0, 1, 0);
                x.condition(0, 6, value, mask);
                for (long v : numbers) {
                    x.argument(0, v);
                    ANSWERS.due("(" + v + " and " + mask + ") = " + value, (v & mask) == value ? 0 : -1, x.ruling());
                }
            }
        }
    }

    // "and all its conditions hold"
    private static void allConditionsMustHold() {
        for (int count = 0; count <= 3; count++) {
            CallFilter x = new CallFilter(0);
            x.rule(0, 0, 1, 0);
            for (int i = 0; i < count; i++) {
                x.condition(i, 0, 0, 0);
            }
            ANSWERS.due("all of " + count + " hold", 0, x.ruling());
            for (int i = 0; i < 3; i++) {
                x.argument(i, 1);
                ANSWERS.due("of " + count + " all but " + i + " hold", i < count ? -1 : 0, x.ruling());
                x.argument(i, 0);
            }
        }
    }

    // "The record is FOREIGN when its architecture is not the one of the constructor"
    private static void foreignByArchitecture() {
        for (int architecture : new int[] {0, 9, Integer.MAX_VALUE, Integer.MIN_VALUE, -1}) {
            CallFilter x = new CallFilter(architecture);
            x.otherwise(true, 5, 0);
            for (int beside : new int[] {-1, 1}) {
                x.word(1, architecture + beside);
                ANSWERS.due("beside " + architecture, CallFilter.FOREIGN, x.ruling());
                ANSWERS.due("beside " + architecture, 0x7ffc0000L, x.decide());
            }
            x.word(1, architecture);
            ANSWERS.due("at " + architecture, CallFilter.NONE, x.ruling());
        }
    }

    // "or its number is 2^30 or more: then the foreign action is taken"
    private static void foreignByNumber() {
        CallFilter x = new CallFilter(0);
        x.otherwise(true, 5, 0);
        for (int number : new int[] {0, LAST_NUMBER - 1, LAST_NUMBER}) {
            x.word(0, number);
            ANSWERS.due("number " + number, CallFilter.NONE, x.ruling());
        }
        for (int number : new int[] {1 << 30, (1 << 30) + 1, Integer.MAX_VALUE, Integer.MIN_VALUE, -1}) {
            x.word(0, number);
            ANSWERS.due("number " + number, CallFilter.FOREIGN, x.ruling());
            ANSWERS.due("number " + number, 0x7ffc0000L, x.decide());
        }
        x.word(1, 1);
        ANSWERS.due("foreign in both ways", CallFilter.FOREIGN, x.ruling());
    }

    // "then the foreign action is taken. Otherwise, of the rules that match"
    private static void foreignBeforeAllRules() {
        CallFilter x = new CallFilter(0);
        x.otherwise(true, 6, 0);
        x.otherwise(false, 0, 0);
        x.rule(0, LAST_NUMBER, 0, 0);
        x.word(1, 1);
        ANSWERS.due("a stricter rule", CallFilter.FOREIGN, x.ruling());
        ANSWERS.due("a stricter rule", 0x7fff0000L, x.decide());
        x.word(1, 0);
        ANSWERS.due("the rule", 0, x.ruling());
    }

    // "of the rules that match, the one with the strictest action is taken"
    private static void strictestIsTaken() {
        int[] kinds = {5, 3, 4, 1, 6, 2};
        for (int missing = 0; missing < 6; missing++) {
            CallFilter x = new CallFilter(0);
            for (int i = 0; i < 6; i++) {
                x.rule(i == missing ? 1 : 0, 1, kinds[i], 0);
            }
            ANSWERS.due("of all that match", missing == 3 ? 5 : 3, x.ruling());
            ANSWERS.due("its word", missing == 3 ? 0x30000 : 0, x.decide());
            x.word(0, 1);
            ANSWERS.due("of all six", 3, x.ruling());
        }
    }

    // "of equally strict ones (of one kind, whatever the data are) the one that was added first"
    private static void ofEquallyStrictTheFirst() {
        for (int kind = 0; kind <= 6; kind++) {
            CallFilter x = new CallFilter(0);
            x.rule(1, 1, kind, 0);
            x.rule(0, 0, kind, 9);
            x.rule(0, 0, kind, 1);
            x.rule(0, 0, kind, 65535);
            ANSWERS.due("the first of kind " + kind, 1, x.ruling());
            ANSWERS.due("its word", KIND_WORDS[kind] + (kind >= 2 && kind <= 4 ? 9 : 0), x.decide());
        }
    }

    // "when none matches, and only then, the default action"
    private static void defaultOnlyWhenNoneMatches() {
        CallFilter x = new CallFilter(0);
        x.otherwise(false, 0, 0);
        x.rule(0, 0, 6, 0);
        ANSWERS.due("a rule that is less strict than the default", 0, x.ruling());
        ANSWERS.due("its word", 0x7fff0000L, x.decide());
        x.word(0, 1);
        ANSWERS.due("no match", CallFilter.NONE, x.ruling());
        ANSWERS.due("the default's word", 0x80000000L, x.decide());
    }

    // "The word, without sign, of the action that the policy takes on the record."
    private static void decideHasNoSign() {
        CallFilter x = new CallFilter(0);
        x.rule(0, 0, 0, 0);
        ANSWERS.due("2^31", 2147483648L, x.decide());
        x.withdraw();
        x.rule(0, 0, 1, 0);
        ANSWERS.due("0", 0, x.decide());
    }

    // "The number of the rule whose action is taken on the record"
    private static void decideAndRulingAgree() {
        CallFilter x = new CallFilter(0);
        for (int i = 0; i < 6; i++) {
            x.rule(i, i, 2 + i % 3, i);
        }
        for (int i = 0; i < 6; i++) {
            x.word(0, i);
            ANSWERS.due("ruling() on " + i, i, x.ruling());
            ANSWERS.due("decide() on " + i, KIND_WORDS[2 + i % 3] + i, x.decide());
        }
    }

    // "NONE when it is the default action, FOREIGN when it is the foreign one" (also where both are alike)
    private static void rulingTellsNoneAndForeign() {
        CallFilter x = new CallFilter(0);
        x.otherwise(false, 2, 5);
        x.otherwise(true, 2, 5);
        x.rule(1, 1, 2, 5);
        ANSWERS.due("the default", -1, x.ruling());
        x.word(0, 1);
        ANSWERS.due("the rule", 0, x.ruling());
        x.word(1, 1);
        ANSWERS.due("the foreign one", -2, x.ruling());
    }

    private static void askingChangesNothing() {
        for (Scene scene : Scene.values()) {
            CallFilter x = scene.object();
            for (int i = 0; i < 3; i++) {
                x.decide();
                x.ruling();
            }
            ANSWERS.due(scene + ": after decide() and ruling()", Portrait.whole(scene.object()), Portrait.whole(x));
        }
    }
}
