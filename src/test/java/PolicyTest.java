/** Promises 4 (rule), 5 (condition), 6 (otherwise), 7 (withdraw), 8 (decide) and 9 (ruling). */
public final class PolicyTest {
    private static final Answers ANSWERS = new Answers();
    private static final int LAST_NUMBER = (1 << 30) - 1;
    private static final long[] KIND_WORDS = {
        0x80000000L, 0, 0x30000, 0x50000, 0x7ff00000, 0x7ffc0000, 0x7fff0000};

    public static void main(String[] args) {
        sixRulesAreTaken();
        wrongRulesAreRefused();
        aRuleHasItsNumbers();
        conditionsHoldWithoutSign();
        everyArgumentHasConditions();
        theMaskIsOfUseToOperatorSixAlone();
        allConditionsMustHold();
        wrongConditionsAreRefused();
        aRuleHasThreeConditions();
        otherwiseSetsOneAction();
        wrongActionsAreRefused();
        withdrawTakesTheLast();
        withdrawTakesTheConditions();
        withdrawMakesTheRuleBeforeTheLast();
        theWordsOfActions();
        theStrictestIsTaken();
        ofEquallyStrictTheFirst();
        theDefaultOnlyWhenNoneMatches();
        foreignRecords();
        theRecordMayChangeLater();
        ANSWERS.finish();
    }

    private static void sixRulesAreTaken() {
        CallFilter x = new CallFilter(0);
        for (int i = 0; i < 6; i++) {
            ANSWERS.due("rule " + i, i, x.rule(i, i, 1, 0));
        }
        ANSWERS.due("rule seven", -1, x.rule(0, 9, 0, 0));
        ANSWERS.due("rule seven again", -1, x.rule(0, 9, 0, 0));
        for (int i = 0; i < 6; i++) {
            x.word(0, i);
            ANSWERS.due("ruling on " + i, i, x.ruling());
        }
        x.word(0, 6);
        ANSWERS.due("ruling on 6", -1, x.ruling());
    }

    private static void wrongRulesAreRefused() {
        CallFilter x = new CallFilter(0);
        ANSWERS.due("from -1", -1, x.rule(-1, 5, 0, 0));
        ANSWERS.due("from least", -1, x.rule(Integer.MIN_VALUE, 5, 0, 0));
        ANSWERS.due("both -1", -1, x.rule(-1, -1, 0, 0));
        ANSWERS.due("from above to", -1, x.rule(6, 5, 0, 0));
        ANSWERS.due("to 2^30", -1, x.rule(0, 1 << 30, 0, 0));
        ANSWERS.due("both 2^30", -1, x.rule(1 << 30, 1 << 30, 0, 0));
        ANSWERS.due("to greatest", -1, x.rule(0, Integer.MAX_VALUE, 0, 0));
        ANSWERS.due("kind -1", -1, x.rule(0, 5, -1, 0));
        ANSWERS.due("kind 7", -1, x.rule(0, 5, 7, 0));
        ANSWERS.due("kind greatest", -1, x.rule(0, 5, Integer.MAX_VALUE, 0));
        ANSWERS.due("data -1", -1, x.rule(0, 5, 0, -1));
        ANSWERS.due("data 65536", -1, x.rule(0, 5, 0, 65536));
        ANSWERS.due("data least", -1, x.rule(0, 5, 0, Integer.MIN_VALUE));
        ANSWERS.due("no rule was added", -1, x.ruling());
        ANSWERS.due("no rule was added", -1, x.withdraw());
        ANSWERS.due("the edges", 0, x.rule(0, LAST_NUMBER, 0, 65535));
        ANSWERS.due("the edges", 1, x.rule(LAST_NUMBER, LAST_NUMBER, 6, 0));
        ANSWERS.due("the edges", 2, x.rule(0, 0, 6, 65535));
    }

    private static void aRuleHasItsNumbers() {
        CallFilter x = new CallFilter(0);
        x.rule(10, 20, 1, 0);
        int[] numbers = {9, 10, 15, 20, 21, 0, LAST_NUMBER};
        int[] due = {-1, 0, 0, 0, -1, -1, -1};
        for (int i = 0; i < numbers.length; i++) {
            x.word(0, numbers[i]);
            ANSWERS.due("10 .. 20 on " + numbers[i], due[i], x.ruling());
        }
        x.withdraw();
        x.rule(0, LAST_NUMBER, 1, 0);
        x.word(0, 0);
        ANSWERS.due("all numbers on 0", 0, x.ruling());
        x.word(0, LAST_NUMBER);
        ANSWERS.due("all numbers on the last", 0, x.ruling());
        x.word(0, LAST_NUMBER + 1);
        ANSWERS.due("all numbers on 2^30", -2, x.ruling());
    }

    private static void conditionsHoldWithoutSign() {
        long[] values = {0, 1, 2, 0x7fffffffL, 0x80000000L, 0xffffffffL, 1L << 32, (1L << 32) + 1,
            Long.MAX_VALUE - 1, Long.MAX_VALUE, Long.MIN_VALUE, Long.MIN_VALUE + 1, -2, -1};
        for (int i = 0; i < values.length; i++) {
            for (int operator = 0; operator <= 5; operator++) {
                CallFilter x = new CallFilter(0);
                x.rule(0, 0, 1, 0);
                x.condition(1, operator, values[i], 0);
                for (int j = 0; j < values.length; j++) {
                    x.argument(1, values[j]);
                    // The values stand in rising order without sign, so their places tell their order.
                    boolean holds = holds(operator, j, i);
                    ANSWERS.due("operator " + operator + " on " + values[j] + " and " + values[i],
                        holds ? 0 : -1, x.ruling());
                }
            }
        }
    }

    private static boolean holds(int operator, int x, int value) {
        switch (operator) {
            case 0: return x == value;
            case 1: return x != value;
            case 2: return x < value;
            case 3: return x <= value;
            case 4: return x > value;
            default: return x >= value;
        }
    }

    private static void everyArgumentHasConditions() {
        for (int i = 0; i < 6; i++) {
            CallFilter x = new CallFilter(0);
            x.rule(0, 0, 1, 0);
            ANSWERS.due("condition on " + i, true, x.condition(i, 0, 7, 0));
            for (int j = 0; j < 6; j++) {
                x.argument(j, 7);
                ANSWERS.due("argument " + j + ", condition on " + i, i == j ? 0 : -1, x.ruling());
                x.argument(j, 0);
            }
        }
    }

    private static void theMaskIsOfUseToOperatorSixAlone() {
        CallFilter x = new CallFilter(0);
        x.rule(0, 0, 1, 0);
        x.condition(0, 6, 0x8000000000000100L, 0x8000000000000f00L);
        x.argument(0, 0x8000000000000100L);
        ANSWERS.due("masked", 0, x.ruling());
        x.argument(0, 0xf0000000000001ffL);
        ANSWERS.due("masked, more bits", 0, x.ruling());
        x.argument(0, 0x0000000000000100L);
        ANSWERS.due("masked, highest bit away", -1, x.ruling());
        x.argument(0, 0x8000000000000300L);
        ANSWERS.due("masked, a bit too many", -1, x.ruling());
        x.withdraw();
        x.rule(0, 0, 1, 0);
        x.condition(0, 6, 3, 1);
        x.argument(0, 3);
        ANSWERS.due("a value outside the mask never holds", -1, x.ruling());
        x.argument(0, 1);
        ANSWERS.due("a value outside the mask never holds", -1, x.ruling());
        x.withdraw();
        x.rule(0, 0, 1, 0);
        x.condition(0, 6, 0, 0);
        ANSWERS.due("an empty mask", 0, x.ruling());
        x.withdraw();
        for (long mask : new long[] {0, 1, -1, Long.MIN_VALUE}) {
            x.rule(0, 0, 1, 0);
            x.condition(0, 0, 5, mask);
            x.argument(0, 5);
            ANSWERS.due("the mask " + mask + " and operator 0", 0, x.ruling());
            x.withdraw();
        }
    }

    private static void allConditionsMustHold() {
        CallFilter x = new CallFilter(0);
        x.rule(0, 0, 1, 0);
        x.condition(0, 5, 10, 0);
        x.condition(0, 3, 20, 0);
        x.condition(1, 1, 3, 0);
        long[][] cases = {{9, 0, -1}, {10, 0, 0}, {20, 0, 0}, {21, 0, -1}, {15, 3, -1}, {15, 2, 0}};
        for (long[] c : cases) {
            x.argument(0, c[0]);
            x.argument(1, c[1]);
            ANSWERS.due("three conditions on " + c[0] + ", " + c[1], c[2], x.ruling());
        }
    }

    private static void wrongConditionsAreRefused() {
        CallFilter x = new CallFilter(0);
        ANSWERS.due("no rule", false, x.condition(0, 0, 0, 0));
        x.rule(0, 0, 1, 0);
        for (int i : new int[] {-1, 6, Integer.MIN_VALUE, Integer.MAX_VALUE}) {
            ANSWERS.due("condition on argument " + i, false, x.condition(i, 0, 5, 0));
        }
        for (int operator : new int[] {-1, 7, Integer.MIN_VALUE, Integer.MAX_VALUE}) {
            ANSWERS.due("operator " + operator, false, x.condition(0, operator, 5, 0));
        }
        ANSWERS.due("no condition was added", 0, x.ruling());
        for (int operator = 4; operator <= 6; operator++) {
            ANSWERS.due("operator " + operator, true, x.condition(5, operator, 0, 0));
        }
        x.withdraw();
        ANSWERS.due("no rule any more", false, x.condition(0, 0, 0, 0));
    }

    private static void aRuleHasThreeConditions() {
        CallFilter x = new CallFilter(0);
        x.rule(0, 0, 1, 0);
        for (int i = 0; i < 3; i++) {
            ANSWERS.due("condition " + i, true, x.condition(i, 0, 0, 0));
        }
        ANSWERS.due("condition 3", false, x.condition(3, 0, 1, 0));
        ANSWERS.due("the fourth is not there", 0, x.ruling());
        x.rule(0, 0, 0, 0);
        for (int i = 0; i < 3; i++) {
            ANSWERS.due("of the next rule, condition " + i, true, x.condition(i, 0, i == 2 ? 1 : 0, 0));
        }
        ANSWERS.due("of the next rule, condition 3", false, x.condition(3, 0, 0, 0));
        ANSWERS.due("the next rule's third counts", 0, x.ruling());
        x.argument(2, 1);
        ANSWERS.due("the next rule's third counts", 1, x.ruling());
    }

    private static void otherwiseSetsOneAction() {
        CallFilter x = new CallFilter(0);
        ANSWERS.due("otherwise, default", true, x.otherwise(false, 3, 77));
        ANSWERS.due("default", 0x50000L + 77, x.decide());
        x.word(1, 5);
        ANSWERS.due("foreign stays", 0x80000000L, x.decide());
        ANSWERS.due("otherwise, foreign", true, x.otherwise(true, 4, 65535));
        ANSWERS.due("foreign", 0x7ff0ffffL, x.decide());
        x.word(1, 0);
        ANSWERS.due("default stays", 0x50000L + 77, x.decide());
        ANSWERS.due("default's ruling", -1, x.ruling());
    }

    private static void wrongActionsAreRefused() {
        CallFilter x = new CallFilter(0);
        for (boolean foreign : new boolean[] {false, true}) {
            ANSWERS.due("before", true, x.otherwise(foreign, 2, 9));
            for (int kind : new int[] {-1, 7, Integer.MIN_VALUE, Integer.MAX_VALUE}) {
                ANSWERS.due("otherwise kind " + kind, false, x.otherwise(foreign, kind, 1));
            }
            for (int data : new int[] {-1, 65536, Integer.MIN_VALUE, Integer.MAX_VALUE}) {
                ANSWERS.due("otherwise data " + data, false, x.otherwise(foreign, 3, data));
            }
        }
        ANSWERS.due("default stays", 0x30009L, x.decide());
        x.word(1, 5);
        ANSWERS.due("foreign stays", 0x30009L, x.decide());
    }

    private static void withdrawTakesTheLast() {
        CallFilter x = new CallFilter(0);
        x.rule(0, 0, 2, 1);
        x.rule(0, 0, 1, 0);
        ANSWERS.due("two rules", 1, x.ruling());
        ANSWERS.due("withdraw", 1, x.withdraw());
        ANSWERS.due("one rule", 0, x.ruling());
        ANSWERS.due("its action", 0x30001L, x.decide());
        ANSWERS.due("the number is given again", 1, x.rule(0, 0, 0, 0));
        ANSWERS.due("withdraw", 1, x.withdraw());
        ANSWERS.due("withdraw", 0, x.withdraw());
        ANSWERS.due("withdraw", -1, x.withdraw());
        ANSWERS.due("withdraw", -1, x.withdraw());
        ANSWERS.due("no rule", -1, x.ruling());
        for (int i = 0; i < 6; i++) {
            ANSWERS.due("six rules again", i, x.rule(0, 0, 1, 0));
        }
        ANSWERS.due("withdraw", 5, x.withdraw());
        ANSWERS.due("room for one", 5, x.rule(0, 0, 1, 0));
        ANSWERS.due("and no more", -1, x.rule(0, 0, 1, 0));
    }

    private static void withdrawTakesTheConditions() {
        CallFilter x = new CallFilter(0);
        x.rule(0, 0, 1, 0);
        for (int i = 0; i < 3; i++) {
            x.condition(i, 0, 1, 0);
        }
        ANSWERS.due("conditions do not hold", -1, x.ruling());
        x.withdraw();
        x.rule(0, 0, 1, 0);
        ANSWERS.due("the next rule has none of them", 0, x.ruling());
        for (int i = 0; i < 3; i++) {
            ANSWERS.due("and has room for " + i, true, x.condition(i, 0, 0, 0));
        }
        ANSWERS.due("and its own hold", 0, x.ruling());
    }

    private static void withdrawMakesTheRuleBeforeTheLast() {
        CallFilter x = new CallFilter(0);
        x.rule(0, 0, 1, 0);
        x.condition(0, 0, 0, 0);
        x.condition(1, 0, 0, 0);
        x.rule(0, 0, 2, 0);
        x.condition(0, 0, 0, 0);
        x.withdraw();
        ANSWERS.due("a third for the rule before", true, x.condition(2, 0, 5, 0));
        ANSWERS.due("and no fourth", false, x.condition(3, 0, 0, 0));
        ANSWERS.due("the third does not hold", -1, x.ruling());
        x.argument(2, 5);
        ANSWERS.due("the third holds", 0, x.ruling());
    }

    private static void theWordsOfActions() {
        for (int kind = 0; kind <= 6; kind++) {
            for (int data : new int[] {0, 1, 4660, 65535}) {
                long due = KIND_WORDS[kind] + (kind >= 2 && kind <= 4 ? data : 0);
                CallFilter x = new CallFilter(0);
                x.otherwise(false, kind, data);
                ANSWERS.due("default of kind " + kind + " data " + data, due, x.decide());
                x.rule(0, 0, kind, data);
                x.otherwise(false, 6, 0);
                ANSWERS.due("rule of kind " + kind + " data " + data, due, x.decide());
                x.otherwise(true, kind, data);
                x.word(1, 1);
                ANSWERS.due("foreign of kind " + kind + " data " + data, due, x.decide());
            }
        }
    }

    private static void theStrictestIsTaken() {
        for (int first = 0; first <= 6; first++) {
            for (int second = 0; second <= 6; second++) {
                CallFilter x = new CallFilter(0);
                x.rule(0, 0, first, 1);
                x.rule(0, 0, second, 2);
                int due = second < first ? 1 : 0;
                ANSWERS.due("kinds " + first + " and " + second, due, x.ruling());
            }
        }
        CallFilter x = new CallFilter(0);
        int[] kinds = {5, 3, 4, 1, 6, 2};
        for (int kind : kinds) {
            x.rule(0, 0, kind, 0);
        }
        ANSWERS.due("of six the strictest", 3, x.ruling());
        ANSWERS.due("its word", 0, x.decide());
        x.withdraw();
        x.withdraw();
        x.withdraw();
        ANSWERS.due("of three the strictest", 1, x.ruling());
    }

    private static void ofEquallyStrictTheFirst() {
        for (int kind = 0; kind <= 6; kind++) {
            CallFilter x = new CallFilter(0);
            x.rule(1, 1, kind, 0);
            x.rule(0, 0, kind, 9);
            x.rule(0, 0, kind, 1);
            x.rule(0, 0, kind, 65535);
            ANSWERS.due("the first of kind " + kind, 1, x.ruling());
            ANSWERS.due("its word", KIND_WORDS[kind] + (kind >= 2 && kind <= 4 ? 9 : 0), x.decide());
        }
    }

    private static void theDefaultOnlyWhenNoneMatches() {
        CallFilter x = new CallFilter(0);
        x.otherwise(false, 0, 0);
        x.rule(0, 0, 6, 0);
        ANSWERS.due("a rule that is less strict than the default", 0, x.ruling());
        ANSWERS.due("its word", 0x7fff0000L, x.decide());
        x.word(0, 1);
        ANSWERS.due("no match", -1, x.ruling());
        ANSWERS.due("the default's word", 0x80000000L, x.decide());
    }

    private static void foreignRecords() {
        CallFilter x = new CallFilter(9);
        x.rule(0, LAST_NUMBER, 0, 0);
        x.otherwise(true, 5, 0);
        ANSWERS.due("another architecture", -2, x.ruling());
        ANSWERS.due("the foreign word", 0x7ffc0000L, x.decide());
        x.word(1, 9);
        ANSWERS.due("its architecture", 0, x.ruling());
        for (int number : new int[] {1 << 30, (1 << 30) + 1, Integer.MAX_VALUE, Integer.MIN_VALUE, -1}) {
            x.word(0, number);
            ANSWERS.due("number " + number, -2, x.ruling());
            ANSWERS.due("number " + number, 0x7ffc0000L, x.decide());
        }
        x.word(0, LAST_NUMBER);
        ANSWERS.due("the last number", 0, x.ruling());
        CallFilter y = new CallFilter(-1);
        y.word(1, -1);
        ANSWERS.due("architecture -1", -1, y.ruling());
        y.word(1, 0x7fffffff);
        ANSWERS.due("architecture without the highest bit", -2, y.ruling());
    }

    private static void theRecordMayChangeLater() {
        CallFilter x = new CallFilter(0);
        x.argument(0, 8);
        x.rule(0, 0, 1, 0);
        x.condition(0, 0, 8, 0);
        ANSWERS.due("a record that was there first", 0, x.ruling());
        ANSWERS.due("asked again", 0, x.ruling());
        x.argument(0, 9);
        ANSWERS.due("changed", -1, x.ruling());
        x.put(Code.of(0x06, 3));
        ANSWERS.due("a program is no policy", 0x7fff0000L, x.decide());
        ANSWERS.due("a policy is no program", 3, x.run());
    }
}
