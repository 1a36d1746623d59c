import java.util.List;

/** Compares answers with those that are due, and ends a test with exit code 1 if one was wrong. */
final class Answers {
    private int asked = 0;
    private int wrong = 0;

    void due(String call, long want, long got) {
        asked++;
        if (got != want) {
            wrong++;
            System.out.println(call + " answered " + got + ", due is " + want);
        }
    }

    void due(String call, boolean want, boolean got) {
        due(call, want ? 1 : 0, got ? 1 : 0);
    }

    /** Many answers at once; of those that differ the first is told. */
    void due(String call, List<String> want, List<String> got) {
        asked++;
        if (!got.equals(want)) {
            wrong++;
            int i = 0;
            while (i < want.size() && i < got.size() && want.get(i).equals(got.get(i))) {
                i++;
            }
            System.out.println(call + ": " + lineOf(got, i) + ", due is " + lineOf(want, i));
        }
    }

    private static String lineOf(List<String> lines, int i) {
        return i < lines.size() ? lines.get(i) : "no more answers";
    }

    void finish() {
        System.out.println(asked + " answers, " + wrong + " not as due");
        if (wrong != 0 || asked == 0) {
            System.exit(1);
        }
    }
}
