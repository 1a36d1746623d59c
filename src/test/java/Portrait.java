import java.util.ArrayList;
import java.util.List;

/** What an object answers, as lines of text: two objects with one portrait are in one state. */
final class Portrait {
    private final CallFilter x;
    private final List<String> lines = new ArrayList<>();

    private Portrait(CallFilter x) {
        this.x = x;
    }

    /** The answers of the calls that only ask. */
    static List<String> atRest(CallFilter x) {
        Portrait portrait = new Portrait(x);
        portrait.askPolicy();
        portrait.askProgram();
        portrait.askLatestRun();
        return portrait.lines;
    }

    /** All that can be found out in some 200 calls; the object is used up by them. */
    static List<String> whole(CallFilter x) {
        Portrait portrait = new Portrait(x);
        portrait.askLatestRun();
        portrait.tryAllButTheLatestRun();
        return portrait.lines;
    }

    /** As whole(), without what the latest run has left. */
    static List<String> withoutTheLatestRun(CallFilter x) {
        Portrait portrait = new Portrait(x);
        portrait.tryAllButTheLatestRun();
        return portrait.lines;
    }

    private void tryAllButTheLatestRun() {
        askPolicy();
        askProgram();
        tryProgram();
        tryWords();
        tryNumbersAndArchitectures();
        tryArguments();
        tryRoomOfThePolicy();
        tryWithdrawals();
    }

    private void tell(String call, Object answer) {
        lines.add(call + " answered " + answer);
    }

    private void askPolicy() {
        tell("decide()", x.decide());
        tell("ruling()", x.ruling());
    }

    private void askProgram() {
        tell("length()", x.length());
        tell("check()", x.check());
    }

    private void askLatestRun() {
        tell("steps()", x.steps());
        for (int i = 0; i < 16; i++) {
            tell("scratch(" + i + ")", x.scratch(i));
        }
    }

    private void tryProgram() {
        tell("run()", x.run());
        askLatestRun();
        tell("put()", x.put(Code.of(0x06, 77)));
        tell("run() with one more", x.run());
        for (int i = 0; i < 3; i++) {
            tell("cut(1)", x.cut(1));
            tell("check() without the last", x.check());
            tell("cut(1)", x.cut(1));
            tell("put()", x.put(Code.of(0x16, 0)));
            tell("run() with an earlier end", x.run());
        }
        tell("cut(all)", x.cut(x.length()));
    }

    private void tryWords() {
        for (int i = 0; i < 16; i++) {
            tell("word " + i, Code.wordOf(x, i));
        }
    }

    private void tryNumbersAndArchitectures() {
        for (int number : new int[] {0, 1, 2, 3, 4, 5, (1 << 30) - 1, 1 << 30}) {
            x.word(0, number);
            for (int architecture : new int[] {0, 7}) {
                x.word(1, architecture);
                tell("decide() on " + number + " of " + architecture, x.decide());
                tell("ruling() on " + number + " of " + architecture, x.ruling());
            }
        }
        x.word(0, 4);
    }

    private void tryArguments() {
        for (int i = 0; i < 6; i++) {
            x.argument(i, 5);
            tell("ruling() with argument " + i, x.ruling());
        }
    }

    private void tryRoomOfThePolicy() {
        for (int i = 0; i < 3; i++) {
            tell("condition()", x.condition(0, 1, 99, 0));
        }
        for (int i = 0; i < 6; i++) {
            tell("rule()", x.rule(0, 9, 6, 0));
        }
    }

    private void tryWithdrawals() {
        for (int i = 0; i < 7; i++) {
            tell("withdraw()", x.withdraw());
            askPolicy();
        }
    }
}
