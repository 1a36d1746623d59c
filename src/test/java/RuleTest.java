/** Promises 4 (rule), 5 (condition), 6 (otherwise) and 7 (withdraw). Over each test its sentence. */
public final class RuleTest {
    private static final Answers ANSWERS = new Answers();
    private static final Refusals REFUSED = new Refusals(ANSWERS);
    private static final int LAST_NUMBER = (1 << 30) - 1;
    private static final int LEAST = Integer.MIN_VALUE;
    private static final int MOST = Integer.MAX_VALUE;

    public static void main(String[] args) {
        ruleIsAdded();
        ruleHasNoConditions();
        ruleFromBelowZero();
        ruleFromAboveTo();
        ruleToTooGreat();
        ruleOfNoKind();
        ruleWithWrongData();
        ruleBeyondSix();

        conditionGoesToTheLastRule();
        conditionOnEachArgument();
        conditionWithoutRule();
        conditionBeyondThree();
        conditionOnNoArgument();
        conditionWithNoOperator();
        conditionWithAnyMask();

        otherwiseSetsTheDefault();
        otherwiseSetsTheForeign();
        otherwiseOfNoKind();
        otherwiseWithWrongData();

        withdrawTakesTheLastRule();
        withdrawTakesTheConditions();
        withdrawGivesTheNumberBack();
        withdrawTellsHowManyAreLeft();
        withdrawOfNone();
        withdrawMakesTheRuleBeforeTheLast();
        ANSWERS.finish();
    }

    private static void isTaken(int from, int to, int kind, int data) {
        String what = "rule(" + from + ", " + to + ", " + kind + ", " + data + ")";
        ANSWERS.due("first " + what, 0, Scene.NEW.object().rule(from, to, kind, data));
        ANSWERS.due("third " + what, 2, Scene.USED.object().rule(from, to, kind, data));
    }

    private static void isRefused(int from, int to, int kind, int data) {
        String what = "rule(" + from + ", " + to + ", " + kind + ", " + data + ")";
        REFUSED.noneInAll(what, x -> x.rule(from, to, kind, data));
    }

    // "Adds a rule .. for the call numbers from .. to with an action; answers its number."
    private static void ruleIsAdded() {
        CallFilter x = new CallFilter(0);
        for (int i = 0; i < 6; i++) {
            ANSWERS.due("rule " + i, i, x.rule(10 * i, 10 * i + 5, 2, i));
        }
        for (int i = 0; i < 6; i++) {
            for (int number : new int[] {10 * i, 10 * i + 5}) {
                x.word(0, number);
                ANSWERS.due("ruling() on " + number, i, x.ruling());
                ANSWERS.due("decide() on " + number, 0x30000 + i, x.decide());
            }
            x.word(0, 10 * i + 6);
            ANSWERS.due("ruling() beside", -1, x.ruling());
        }
    }

    // "Adds a rule without conditions"
    private static void ruleHasNoConditions() {
        CallFilter x = new CallFilter(0);
        for (int i = 0; i < 6; i++) {
            x.rule(i, i, 1, 0);
            x.word(0, i);
            for (int j = 0; j < 6; j++) {
                x.argument(j, -1 - i);
            }
            ANSWERS.due("rule " + i + " on any arguments", i, x.ruling());
            for (int j = 0; j < 3; j++) {
                ANSWERS.due("rule " + i + " has room for condition " + j, true, x.condition(j, 0, 77, 0));
            }
            ANSWERS.due("rule " + i + " and its conditions", -1, x.ruling());
        }
    }

    // "NONE, changing nothing, when from is below 0"
    private static void ruleFromBelowZero() {
        isTaken(0, 5, 1, 0);
        for (int from : new int[] {-1, -2, -LAST_NUMBER, LEAST}) {
            isRefused(from, 5, 1, 0);
            isRefused(from, from, 1, 0);
        }
    }

    // "or above to"
    private static void ruleFromAboveTo() {
        for (int to : new int[] {0, 4, LAST_NUMBER - 1}) {
            isTaken(to, to, 1, 0);
            isRefused(to + 1, to, 1, 0);
        }
        isTaken(LAST_NUMBER, LAST_NUMBER, 1, 0);
        isRefused(LAST_NUMBER, 0, 1, 0);
        isRefused(0, -1, 1, 0);
        isRefused(0, LEAST, 1, 0);
    }

    // "to is 2^30 or more"
    private static void ruleToTooGreat() {
        isTaken(0, LAST_NUMBER, 1, 0);
        for (int to : new int[] {LAST_NUMBER + 1, LAST_NUMBER + 2, MOST}) {
            isRefused(0, to, 1, 0);
            isRefused(to, to, 1, 0);
        }
    }

    // "kind is not 0 .. 6"
    private static void ruleOfNoKind() {
        for (int kind = 0; kind <= 6; kind++) {
            isTaken(0, 5, kind, 1);
        }
        for (int kind : new int[] {LEAST, -2, -1, 7, 8, MOST}) {
            isRefused(0, 5, kind, 1);
        }
    }

    // "data is not 0 .. 65535" (also of kinds whose word the data are not in)
    private static void ruleWithWrongData() {
        for (int kind = 0; kind <= 6; kind++) {
            isTaken(0, 5, kind, 0);
            isTaken(0, 5, kind, 65535);
            for (int data : new int[] {LEAST, -1, 65536, MOST}) {
                isRefused(0, 5, kind, data);
            }
        }
    }

    // "or six rules are there"
    private static void ruleBeyondSix() {
        CallFilter x = new CallFilter(0);
        for (int i = 0; i < 6; i++) {
            ANSWERS.due("rule " + i, i, x.rule(0, 5, 1, 0));
        }
        ANSWERS.due("a seventh", -1, x.rule(0, 5, 0, 0));
        ANSWERS.due("a seventh again", -1, x.rule(0, 5, 0, 0));
        for (int kind = 0; kind <= 6; kind++) {
            int k = kind;
            REFUSED.noneIn(Scene.FULL, "a seventh rule", y -> y.rule(0, LAST_NUMBER, k, 1));
        }
        x.withdraw();
        ANSWERS.due("a sixth again", 5, x.rule(0, 5, 0, 0));
        ANSWERS.due("and no seventh", -1, x.rule(0, 5, 0, 0));
    }

    // "Adds a condition .. to the rule that was added last: true"
    private static void conditionGoesToTheLastRule() {
        CallFilter x = new CallFilter(0);
        for (int i = 0; i < 6; i++) {
            x.rule(i, i, 1, 0);
            ANSWERS.due("condition of rule " + i, true, x.condition(0, 0, i, 0));
        }
        for (int number = 0; number < 6; number++) {
            x.word(0, number);
            for (int v = 0; v < 6; v++) {
                x.argument(0, v);
                ANSWERS.due("number " + number + ", argument " + v, v == number ? v : -1, x.ruling());
            }
        }
    }

    // "Adds a condition on argument i"
    private static void conditionOnEachArgument() {
        for (int i = 0; i < 6; i++) {
            CallFilter x = new CallFilter(0);
            x.rule(0, 0, 1, 0);
            ANSWERS.due("condition on " + i, true, x.condition(i, 0, 7, 0));
            for (int j = 0; j < 6; j++) {
                x.argument(j, 7);
                ANSWERS.due("argument " + j + ", condition on " + i, i == j ? 0 : -1, x.ruling());
                x.argument(j, 0);
            }
        }
    }

    // "false, changing nothing, when there is no rule"
    private static void conditionWithoutRule() {
        REFUSED.falseIn(Scene.NEW, "a condition without rule", x -> x.condition(0, 0, 5, 0));
        CallFilter x = new CallFilter(0);
        x.rule(0, 0, 1, 0);
        ANSWERS.due("of a rule", true, x.condition(0, 1, 5, 0));
        x.withdraw();
        ANSWERS.due("of none any more", false, x.condition(0, 0, 5, 0));
        x.rule(0, 0, 1, 0);
        ANSWERS.due("the next rule has none of them", 0, x.ruling());
    }

    // "it has three conditions"
    private static void conditionBeyondThree() {
        for (int i = 0; i < 6; i++) {
            int argument = i;
            REFUSED.falseIn(Scene.FULL, "a fourth condition", x -> x.condition(argument, 1, 5, 0));
        }
        CallFilter x = new CallFilter(0);
        for (int rule = 0; rule < 6; rule++) {
            x.rule(rule, rule, 1, 0);
            x.word(0, rule);
            for (int i = 0; i < 3; i++) {
                ANSWERS.due("condition " + i + " of rule " + rule, true, x.condition(i, 0, 0, 0));
            }
            ANSWERS.due("a fourth one of rule " + rule, false, x.condition(3, 0, 1, 0));
            ANSWERS.due("which is not there", rule, x.ruling());
        }
    }

    // "i is not 0 .. 5"
    private static void conditionOnNoArgument() {
        ANSWERS.due("on 0", true, Scene.USED.object().condition(0, 0, 5, 0));
        ANSWERS.due("on 5", true, Scene.USED.object().condition(5, 0, 5, 0));
        for (int i : new int[] {LEAST, -2, -1, 6, 7, MOST}) {
            REFUSED.falseInAll("condition on " + i, x -> x.condition(i, 0, 5, 0));
        }
    }

    // "or operator is not 0 .. 6"
    private static void conditionWithNoOperator() {
        for (int operator = 0; operator <= 6; operator++) {
            ANSWERS.due("operator " + operator, true, Scene.USED.object().condition(0, operator, 5, 0));
        }
        for (int operator : new int[] {LEAST, -2, -1, 7, 8, MOST}) {
            REFUSED.falseInAll("operator " + operator, x -> x.condition(0, operator, 5, 0));
        }
    }

    // "The mask is of use to operator 6 alone; it may be anything."
    private static void conditionWithAnyMask() {
        for (long mask : new long[] {0, 1, Long.MAX_VALUE, Long.MIN_VALUE, -1}) {
            for (int operator = 0; operator <= 6; operator++) {
                CallFilter x = new CallFilter(0);
                x.rule(0, 0, 1, 0);
                ANSWERS.due("mask " + mask, true, x.condition(0, operator, 5, mask));
                x.argument(0, 5);
                boolean holds = operator == 6 ? (5 & mask) == 5 : operator == 0 || operator == 3 || operator == 5;
                ANSWERS.due("5 by operator " + operator + ", mask " + mask, holds ? 0 : -1, x.ruling());
            }
        }
    }

    // "The default action .. : true"
    private static void otherwiseSetsTheDefault() {
        CallFilter x = new CallFilter(0);
        ANSWERS.due("otherwise()", true, x.otherwise(false, 3, 77));
        ANSWERS.due("the default", 0x50000L + 77, x.decide());
        ANSWERS.due("its ruling", CallFilter.NONE, x.ruling());
        x.word(1, 5);
        ANSWERS.due("the foreign one stays", 0x80000000L, x.decide());
        x.word(1, 0);
        ANSWERS.due("otherwise() again", true, x.otherwise(false, 2, 0));
        ANSWERS.due("the default again", 0x30000L, x.decide());
    }

    // "or, if foreign is true, the foreign one: true"
    private static void otherwiseSetsTheForeign() {
        CallFilter x = new CallFilter(0);
        ANSWERS.due("otherwise()", true, x.otherwise(true, 4, 65535));
        ANSWERS.due("the default stays", 0x7fff0000L, x.decide());
        x.word(1, 5);
        ANSWERS.due("the foreign one", 0x7ff0ffffL, x.decide());
        ANSWERS.due("its ruling", CallFilter.FOREIGN, x.ruling());
        ANSWERS.due("otherwise() again", true, x.otherwise(true, 2, 0));
        ANSWERS.due("the foreign one again", 0x30000L, x.decide());
    }

    // "false, changing nothing, when kind is not 0 .. 6"
    private static void otherwiseOfNoKind() {
        for (boolean foreign : new boolean[] {false, true}) {
            for (int kind = 0; kind <= 6; kind++) {
                ANSWERS.due("kind " + kind, true, Scene.USED.object().otherwise(foreign, kind, 1));
            }
            for (int kind : new int[] {LEAST, -2, -1, 7, 8, MOST}) {
                REFUSED.falseInAll("otherwise() of kind " + kind, x -> x.otherwise(foreign, kind, 1));
            }
        }
    }

    // "or data is not 0 .. 65535" (also of kinds whose word the data are not in)
    private static void otherwiseWithWrongData() {
        for (boolean foreign : new boolean[] {false, true}) {
            for (int kind = 0; kind <= 6; kind++) {
                int k = kind;
                ANSWERS.due("data 0", true, Scene.USED.object().otherwise(foreign, kind, 0));
                ANSWERS.due("data 65535", true, Scene.USED.object().otherwise(foreign, kind, 65535));
                for (int data : new int[] {LEAST, -1, 65536, MOST}) {
                    REFUSED.falseInAll("otherwise() with " + data, x -> x.otherwise(foreign, k, data));
                }
            }
        }
    }

    // "Takes the rule that was added last away"
    private static void withdrawTakesTheLastRule() {
        CallFilter x = new CallFilter(0);
        for (int i = 0; i < 6; i++) {
            x.rule(0, 0, 6 - i, 0);
        }
        for (int i = 5; i >= 0; i--) {
            ANSWERS.due("the strictest of " + (i + 1), i, x.ruling());
            x.withdraw();
        }
        ANSWERS.due("none is left", -1, x.ruling());
    }

    // "with its conditions"
    private static void withdrawTakesTheConditions() {
        CallFilter x = new CallFilter(0);
        x.rule(0, 0, 1, 0);
        for (int i = 0; i < 3; i++) {
            x.condition(i, 0, 1, 0);
        }
        ANSWERS.due("they do not hold", -1, x.ruling());
        x.withdraw();
        x.rule(0, 0, 1, 0);
        ANSWERS.due("the next rule has none of them", 0, x.ruling());
        for (int i = 0; i < 3; i++) {
            ANSWERS.due("and has room for " + i, true, x.condition(i, 0, 0, 0));
        }
        ANSWERS.due("and its own hold", 0, x.ruling());
    }

    // "(its number is the next one's)"
    private static void withdrawGivesTheNumberBack() {
        CallFilter x = new CallFilter(0);
        for (int i = 0; i < 6; i++) {
            ANSWERS.due("rule " + i, i, x.rule(0, 0, 1, 0));
            x.withdraw();
            ANSWERS.due("rule " + i + " again", i, x.rule(0, 0, 1, 0));
        }
    }

    // "answers how many are left"
    private static void withdrawTellsHowManyAreLeft() {
        CallFilter x = Scene.FULL.object();
        for (int left = 5; left >= 0; left--) {
            ANSWERS.due("left", left, x.withdraw());
        }
    }

    // "NONE when there was none"
    private static void withdrawOfNone() {
        REFUSED.noneIn(Scene.NEW, "withdraw()", CallFilter::withdraw);
        CallFilter x = new CallFilter(0);
        x.rule(0, 0, 1, 0);
        ANSWERS.due("withdraw() of one", 0, x.withdraw());
        ANSWERS.due("withdraw() of none", CallFilter.NONE, x.withdraw());
        ANSWERS.due("withdraw() of none again", CallFilter.NONE, x.withdraw());
        ANSWERS.due("the next rule", 0, x.rule(0, 0, 1, 0));
    }

    // "Adds a condition .. to the rule that was added last": of those that are there
    private static void withdrawMakesTheRuleBeforeTheLast() {
        CallFilter x = new CallFilter(0);
        x.rule(0, 0, 1, 0);
        x.condition(0, 0, 0, 0);
        x.condition(1, 0, 0, 0);
        x.rule(0, 0, 2, 0);
        x.condition(0, 0, 0, 0);
        x.withdraw();
        ANSWERS.due("a third for the rule before", true, x.condition(2, 0, 5, 0));
        ANSWERS.due("and no fourth", false, x.condition(3, 0, 0, 0));
        ANSWERS.due("the third does not hold", -1, x.ruling());
        x.argument(2, 5);
        ANSWERS.due("the third holds", 0, x.ruling());
    }
}
