import java.lang.reflect.Constructor;
import java.lang.reflect.Field;
import java.lang.reflect.Method;
import java.lang.reflect.Modifier;
import java.util.Arrays;
import java.util.TreeSet;

/** The public face: just the names and types of the document, and nothing else that can be reached. */
public final class FaceTest {
    private static final String[] METHODS = {
        "int append(int)", "int arrival(int,int)", "int bestDay(int,int)", "int bestTown(int)",
        "int bundle(int,int)", "int carrier(int,int)", "int clear()", "int count(int)", "int fault(int)",
        "int forget(int)", "int ifPassed(int,int)", "int ifPosted(int,int,int)", "int ill(int,int)",
        "double lateness()", "int letters()", "int load(int)", "int meeting(int,int,boolean)",
        "int pass(int)", "int post(int,int)", "int restore()", "int rough(int,int)", "int save()",
        "int stall(int,int)", "int tours()", "int undo()", "int where(int,int)",
    };

    public static void main(String[] args) {
        Due due = new Due("FaceTest");
        due.is("constants", MovedStalls.INVALID_ARGUMENT + " " + MovedStalls.NOT_POSSIBLE + " "
            + MovedStalls.LIMIT_REACHED + " " + MovedStalls.NOT_FOUND, "-1 -2 -3 -4");
        due.is("class", Modifier.toString(MovedStalls.class.getModifiers()), "public final");
        due.is("constructors", constructors(), "public MovedStalls()");
        due.is("methods", methods().toString(), new TreeSet<String>(Arrays.asList(METHODS)).toString());
        due.is("fields", fields().toString(), "[INVALID_ARGUMENT, LIMIT_REACHED, NOT_FOUND, NOT_POSSIBLE]");
        for (Class<?> inner : MovedStalls.class.getDeclaredClasses()) {
            due.is(inner.getName() + " is static", Modifier.isStatic(inner.getModifiers()) ? 1 : 0, 1);
            due.is(inner.getName() + " is not public", Modifier.isPublic(inner.getModifiers()) ? 1 : 0, 0);
            due.is(inner.getName() + " is not protected", Modifier.isProtected(inner.getModifiers()) ? 1 : 0, 0);
            checkStaticFields(due, inner);
        }
        checkStaticFields(due, MovedStalls.class);
        due.is("private methods with a public one's name", privateOnesWithAPublicName().toString(), "[]");
        due.is("what is declared to be thrown", declaredToBeThrown(), "");
        due.end();
    }

    private static String constructors() {
        StringBuilder all = new StringBuilder();
        for (Constructor<?> one : MovedStalls.class.getDeclaredConstructors()) {
            all.append(one.toString());
        }
        return all.toString();
    }

    private static TreeSet<String> methods() {
        TreeSet<String> all = new TreeSet<String>();
        for (Method one : MovedStalls.class.getDeclaredMethods()) {
            if (!Modifier.isPrivate(one.getModifiers())) {
                String types = Arrays.toString(one.getParameterTypes()).replace(" ", "");
                all.add((Modifier.isPublic(one.getModifiers()) && !Modifier.isStatic(one.getModifiers()) ? "" : "not public: ")
                    + one.getReturnType() + " " + one.getName() + "(" + types.substring(1, types.length() - 1) + ")");
            }
        }
        return all;
    }

    private static TreeSet<String> fields() {
        TreeSet<String> all = new TreeSet<String>();
        for (Field one : MovedStalls.class.getDeclaredFields()) {
            if (!Modifier.isPrivate(one.getModifiers())) {
                boolean constant = Modifier.toString(one.getModifiers()).equals("public static final");
                all.add((constant && one.getType() == int.class ? "" : "not constant: ") + one.getName());
            }
        }
        return all;
    }

    /** LANGUAGE.md, rule 1 */
    private static TreeSet<String> privateOnesWithAPublicName() {
        TreeSet<String> open = new TreeSet<String>();
        TreeSet<String> hidden = new TreeSet<String>();
        for (Method one : MovedStalls.class.getDeclaredMethods()) {
            (Modifier.isPrivate(one.getModifiers()) ? hidden : open).add(one.getName());
        }
        hidden.retainAll(open);
        return hidden;
    }

    private static String declaredToBeThrown() {
        StringBuilder all = new StringBuilder();
        for (Method one : MovedStalls.class.getDeclaredMethods()) {
            for (Class<?> thrown : one.getExceptionTypes()) {
                all.append(one.getName()).append(": ").append(thrown.getName()).append(' ');
            }
        }
        return all.toString();
    }

    /** LANGUAGE.md, rule 5: no static state. */
    private static void checkStaticFields(Due due, Class<?> owner) {
        for (Field one : owner.getDeclaredFields()) {
            if (Modifier.isStatic(one.getModifiers())) {
                due.is(one + " is final", Modifier.isFinal(one.getModifiers()) ? 1 : 0, 1);
            }
        }
    }
}
