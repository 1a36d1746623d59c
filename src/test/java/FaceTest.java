import java.lang.reflect.Field;
import java.lang.reflect.Member;
import java.lang.reflect.Method;
import java.lang.reflect.Modifier;
import java.util.Set;
import java.util.TreeSet;

/** The public face, and the rules of LANGUAGE.md about members that reflection can see. */
public final class FaceTest {
    private static final Answers ANSWERS = new Answers();

    private static final Set<String> METHODS = Set.of(
        "public boolean CallFilter.word(int,int)",
        "public boolean CallFilter.argument(int,long)",
        "public int CallFilter.rule(int,int,int,int)",
        "public boolean CallFilter.condition(int,int,long,long)",
        "public boolean CallFilter.otherwise(boolean,int,int)",
        "public int CallFilter.withdraw()",
        "public long CallFilter.decide()",
        "public int CallFilter.ruling()",
        "public boolean CallFilter.put(long)",
        "public int CallFilter.cut(int)",
        "public int CallFilter.length()",
        "public int CallFilter.check()",
        "public long CallFilter.run()",
        "public int CallFilter.steps()",
        "public long CallFilter.scratch(int)");

    private static final Set<String> CONSTANTS = Set.of(
        "NONE", "FOREIGN", "EMPTY", "CODE", "OPERAND", "JUMP", "END", "UNSET");

    public static void main(String[] args) {
        theConstantsHaveTheirValues();
        theMembersAreThoseOfTheDocument();
        noPrivateMethodBearsThePublicName();
        noStaticStateChanges();
        ANSWERS.finish();
    }

    private static void theConstantsHaveTheirValues() {
        ANSWERS.due("NONE", -1, CallFilter.NONE);
        ANSWERS.due("FOREIGN", -2, CallFilter.FOREIGN);
        ANSWERS.due("EMPTY", 1, CallFilter.EMPTY);
        ANSWERS.due("CODE", 2, CallFilter.CODE);
        ANSWERS.due("OPERAND", 3, CallFilter.OPERAND);
        ANSWERS.due("JUMP", 4, CallFilter.JUMP);
        ANSWERS.due("END", 5, CallFilter.END);
        ANSWERS.due("UNSET", 6, CallFilter.UNSET);
    }

    private static void theMembersAreThoseOfTheDocument() {
        Set<String> methods = new TreeSet<>();
        for (Method m : CallFilter.class.getDeclaredMethods()) {
            if (isOpen(m)) {
                methods.add(m.toString());
            }
        }
        ANSWERS.due("the methods " + methods, true, methods.equals(METHODS));
        Set<String> constants = new TreeSet<>();
        for (Field f : CallFilter.class.getDeclaredFields()) {
            if (isOpen(f)) {
                constants.add(f.getName());
                ANSWERS.due(f + " is an int", true, f.getType() == int.class);
            }
        }
        ANSWERS.due("the constants " + constants, true, constants.equals(CONSTANTS));
        int modifiers = CallFilter.class.getModifiers();
        ANSWERS.due("public final", true, Modifier.isPublic(modifiers) && Modifier.isFinal(modifiers));
        ANSWERS.due("one constructor", 1, CallFilter.class.getDeclaredConstructors().length);
    }

    private static void noPrivateMethodBearsThePublicName() {
        Set<String> names = new TreeSet<>();
        for (Method m : CallFilter.class.getDeclaredMethods()) {
            if (isOpen(m)) {
                names.add(m.getName());
            }
        }
        for (Method m : CallFilter.class.getDeclaredMethods()) {
            ANSWERS.due(m + " bears a public name", isOpen(m), names.contains(m.getName()));
        }
        for (Class<?> inside : CallFilter.class.getDeclaredClasses()) {
            ANSWERS.due(inside + " is static", true, Modifier.isStatic(inside.getModifiers()));
            ANSWERS.due(inside + " is public", false, Modifier.isPublic(inside.getModifiers()));
            for (Method m : inside.getDeclaredMethods()) {
                ANSWERS.due(m + " bears a public name", false, names.contains(m.getName()));
            }
        }
    }

    private static void noStaticStateChanges() {
        for (Field f : CallFilter.class.getDeclaredFields()) {
            ANSWERS.due(f + " is static and not final", false, isLooseStatic(f));
        }
        for (Class<?> inside : CallFilter.class.getDeclaredClasses()) {
            for (Field f : inside.getDeclaredFields()) {
                ANSWERS.due(f + " is static and not final", false, isLooseStatic(f));
            }
        }
    }

    private static boolean isOpen(Member m) {
        return !Modifier.isPrivate(m.getModifiers());
    }

    private static boolean isLooseStatic(Field f) {
        return Modifier.isStatic(f.getModifiers()) && !Modifier.isFinal(f.getModifiers());
    }
}
