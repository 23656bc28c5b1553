import java.lang.reflect.Constructor;
import java.lang.reflect.Field;
import java.lang.reflect.Method;
import java.lang.reflect.Modifier;
import java.util.Arrays;
import java.util.TreeSet;

/** The public face, and rule 1 of the language: nothing else is to be seen from outside. */
public final class FaceTest {
    private static final String BOUNDS = " IndexOutOfBoundsException";
    private static final String ARGUMENT = " IllegalArgumentException";
    private static final String STATE = " IllegalStateException";
    private static final String ELEMENT = " NoSuchElementException";
    private static final String[] FACE = {
        "int tell(1)" + ARGUMENT + STATE,
        "int roll(1)" + BOUNDS + STATE,
        "boolean toggleLock(1)" + BOUNDS,
        "int buyLevel(1)" + BOUNDS + STATE,
        "int buy(2)" + BOUNDS + ELEMENT + STATE,
        "int sell(2)" + BOUNDS,
        "int toBoard(2)" + BOUNDS + STATE,
        "int toBench(2)" + BOUNDS + STATE,
        "int round(0)" + STATE,
        "int rounds(0)",
        "int fight(2)" + BOUNDS + ARGUMENT,
        "int fightByRecord(2)" + BOUNDS + ARGUMENT,
        "int gold(1)" + BOUNDS,
        "int health(1)" + BOUNDS,
        "int streak(1)" + BOUNDS,
        "int shopAt(2)" + BOUNDS,
        "int benchAt(2)" + BOUNDS,
        "int boardAt(2)" + BOUNDS,
        "int blow(2)" + BOUNDS,
        "int pool(1)" + BOUNDS,
        "int out(1)" + BOUNDS,
    };

    private FaceTest() { }

    public static void main(String[] args) throws ReflectiveOperationException {
        Checks.due("the methods", methodsSeen(), new TreeSet<>(Arrays.asList(FACE)));
        Checks.due("the fields", fieldsSeen(), "NONE ");
        Checks.due("NONE", Gladehall.class.getField("NONE").getInt(null), -1);
        Checks.due("the class", Gladehall.class.getModifiers(), Modifier.PUBLIC | Modifier.FINAL);
        Constructor<?>[] constructors = Gladehall.class.getDeclaredConstructors();
        Checks.due("the constructors", constructors.length, 1);
        Checks.due("the constructor", constructors[0].toString(), "public Gladehall()");
        nestedClassesAreHidden();
        noPrivateMethodBearsAPublicName();
        Checks.finish();
    }

    /** "the classes inside it, which are private or package-visible and static", with nothing public in them. */
    private static void nestedClassesAreHidden() {
        for (Class<?> nested : Gladehall.class.getDeclaredClasses()) {
            int modifiers = nested.getModifiers();
            Checks.due(nested + " is hidden", modifiers & (Modifier.PUBLIC | Modifier.PROTECTED), 0);
            Checks.due(nested + " is static", Modifier.isStatic(modifiers), true);
            for (Method method : nested.getDeclaredMethods()) {
                Checks.due(method + " is private", Modifier.isPrivate(method.getModifiers()), true);
            }
        }
    }

    /** "No private method bears the name of a public one." */
    private static void noPrivateMethodBearsAPublicName() {
        TreeSet<String> names = new TreeSet<>();
        for (String line : FACE) {
            names.add(line.substring(line.indexOf(' ') + 1, line.indexOf('(')));
        }
        TreeSet<String> borne = new TreeSet<>();
        for (Method method : Gladehall.class.getDeclaredMethods()) {
            if (Modifier.isPrivate(method.getModifiers())) {
                borne.add(method.getName());
            }
        }
        for (Class<?> nested : Gladehall.class.getDeclaredClasses()) {
            for (Method method : nested.getDeclaredMethods()) {
                borne.add(method.getName());
            }
        }
        borne.retainAll(names);
        Checks.due("names of the face that private methods bear", borne, new TreeSet<String>());
    }

    private static TreeSet<String> methodsSeen() {
        TreeSet<String> seen = new TreeSet<>();
        for (Method method : Gladehall.class.getDeclaredMethods()) {
            if (!Modifier.isPrivate(method.getModifiers())) {
                StringBuilder text = new StringBuilder(method.getReturnType().getSimpleName());
                text.append(' ').append(method.getName()).append('(').append(method.getParameterCount()).append(')');
                for (Class<?> thrown : method.getExceptionTypes()) {
                    text.append(' ').append(thrown.getSimpleName());
                }
                seen.add(text.toString());
            }
        }
        return seen;
    }

    private static String fieldsSeen() {
        StringBuilder seen = new StringBuilder();
        for (Field field : Gladehall.class.getDeclaredFields()) {
            if (!Modifier.isPrivate(field.getModifiers())) {
                seen.append(field.getName()).append(' ');
            }
        }
        return seen.toString();
    }
}
