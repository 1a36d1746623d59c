import java.io.IOException;
import java.lang.reflect.Field;
import java.lang.reflect.Method;
import java.lang.reflect.Modifier;
import java.nio.file.Files;
import java.nio.file.Path;
import java.util.ArrayList;
import java.util.List;
import java.util.Set;
import java.util.TreeSet;
import java.util.regex.Matcher;
import java.util.regex.Pattern;

/** Rules of LANGUAGE.md that the text of the class shows: words, library calls, sizes, where objects are made. */
public final class LanguageTest {
    private static final Answers ANSWERS = new Answers();
    private static final Path SOURCE = Path.of("src/main/java/CallFilter.java");
    private static final Pattern COMMENT = Pattern.compile("/\\*.*?\\*/|//[^\n]*", Pattern.DOTALL);
    private static final Pattern METHOD = Pattern.compile("^ {4}(?: {4})?[^ ].*\\) \\{$");
    private static final Pattern CONSTRUCTOR = Pattern.compile("^ *(?:public |private )?[A-Z]\\w*\\(.*\\) \\{$");
    private static final Pattern METHOD_END = Pattern.compile("^ {4}(?: {4})?\\}$");
    private static final Pattern LIBRARY = Pattern.compile(
        "Math\\.\\w+|(?:Integer|Long)\\.\\w+|System\\.arraycopy|Arrays\\.(?:copyOf|copyOfRange|fill)|List\\.of");

    private final List<String> lines;

    private LanguageTest(String text) {
        // Lines of comments stay as empty ones, so that the length of a method is the one that is read.
        Matcher comments = COMMENT.matcher(text);
        lines = List.of(comments.replaceAll(m -> "\n".repeat((int) m.group().lines().count() - 1)).split("\n"));
    }

    public static void main(String[] args) throws IOException {
        LanguageTest test = new LanguageTest(Files.readString(SOURCE));
        test.isOneFileWithoutPackage();
        test.hasNoneOfTheWordsThatAreOut();
        test.usesOnlyTheLibraryThatIsIn();
        test.hasShortMethods();
        test.hasFewClassesAndFields();
        test.makesObjectsInConstructorsAlone();
        ANSWERS.finish();
    }

    private int linesWith(String pattern) {
        Pattern p = Pattern.compile(pattern);
        int found = 0;
        for (String line : lines) {
            if (p.matcher(line).find()) {
                found++;
                System.out.println("  found: " + line.trim());
            }
        }
        return found;
    }

    // "The program is one file, .. without a package line"; nothing that it uses of the library needs an import.
    private void isOneFileWithoutPackage() throws IOException {
        ANSWERS.due("package lines", 0, linesWith("^\\s*package\\b"));
        ANSWERS.due("imports", 0, linesWith("^\\s*import\\b"));
        try (var files = Files.list(SOURCE.getParent())) {
            ANSWERS.due("files of the program", 1, files.count());
        }
    }

    // Rule 2: "no lambda, no method reference"; rule 5: "no static initialiser block"; rule 6: "No throw, try, .."
    private void hasNoneOfTheWordsThatAreOut() {
        for (String word : new String[] {"throws?", "try", "catch", "finally", "synchronized", "assert", "equals",
            "hashCode", "toString", "native", "var"}) {
            ANSWERS.due("lines with " + word, 0, linesWith("\\b" + word + "\\b"));
        }
        ANSWERS.due("lambdas", 0, linesWith("->"));
        ANSWERS.due("method references", 0, linesWith("::"));
        ANSWERS.due("static initialiser blocks", 0, linesWith("^\\s*static\\s*\\{"));
    }

    // Rule 4: "The library: only what stands here."
    private void usesOnlyTheLibraryThatIsIn() {
        Set<String> own = ownClasses();
        Matcher uses = Pattern.compile("\\b([A-Z]\\w*[a-z]\\w*)\\.\\w+").matcher(String.join("\n", lines));
        while (uses.find()) {
            String use = uses.group();
            boolean fits = own.contains(uses.group(1)) || LIBRARY.matcher(use).matches() && !use.endsWith("Exact");
            ANSWERS.due(use + " is allowed", true, fits);
        }
    }

    private static Set<String> ownClasses() {
        Set<String> own = new TreeSet<>();
        for (Class<?> inside : CallFilter.class.getDeclaredClasses()) {
            own.add(inside.getSimpleName());
        }
        return own;
    }

    // Rule 11: "Methods stay short (some sixty lines)"
    private void hasShortMethods() {
        int methods = 0;
        int begin = -1;
        for (int i = 0; i < lines.size(); i++) {
            if (METHOD.matcher(lines.get(i)).matches()) {
                begin = i;
                methods++;
            } else if (METHOD_END.matcher(lines.get(i)).matches() && begin >= 0) {
                ANSWERS.due(lines.get(begin).trim() + " is short", true, i - begin < 60);
                begin = -1;
            }
        }
        ANSWERS.due("methods were found", true, methods > 15);
    }

    // Rule 11: "at most seven parameters", "at most some twelve classes", "some twenty fields beside its constants"
    private void hasFewClassesAndFields() {
        List<Class<?>> classes = new ArrayList<>(List.of(CallFilter.class.getDeclaredClasses()));
        classes.add(CallFilter.class);
        ANSWERS.due("at most twelve classes", true, classes.size() <= 12);
        for (Class<?> c : classes) {
            int fields = 0;
            for (Field field : c.getDeclaredFields()) {
                fields += Modifier.isStatic(field.getModifiers()) ? 0 : 1;
            }
            ANSWERS.due(c + " has at most twenty fields", true, fields <= 20);
            for (Method method : c.getDeclaredMethods()) {
                ANSWERS.due(method + " takes at most seven", true, method.getParameterCount() <= 7);
            }
        }
    }

    // Rule 12: "What a run makes is counted": here no call but the constructor makes anything.
    private void makesObjectsInConstructorsAlone() {
        boolean inMethod = false;
        for (String line : lines) {
            if (METHOD.matcher(line).matches()) {
                inMethod = !CONSTRUCTOR.matcher(line).matches();
            } else if (METHOD_END.matcher(line).matches()) {
                inMethod = false;
            }
            if (inMethod) {
                boolean makes = Pattern.compile("\\bnew\\b|\\bclone\\b|\\bcopyOf").matcher(line).find();
                ANSWERS.due(line.trim() + " makes an object", false, makes);
            }
        }
    }
}
