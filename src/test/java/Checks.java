import java.util.Objects;
import java.util.function.Supplier;

/** Counts checks and prints those that are not as due. */
final class Checks {
    private static int checked;
    private static int wrong;

    private Checks() { }

    static void due(String what, Object got, Object want) {
        checked++;
        if (!Objects.equals(got, want)) {
            wrong++;
            System.out.println(what + " answered " + got + ", due is " + want);
        }
    }

    /** What the call answers, or throws.X with the name of the very class that it throws. */
    static String outcome(Supplier<Object> call) {
        try {
            return String.valueOf(call.get());
        } catch (RuntimeException | Error thrown) {
            return "throws." + thrown.getClass().getSimpleName();
        }
    }

    static void throwsDue(String what, Class<? extends RuntimeException> want, Supplier<Object> call) {
        due(what, outcome(call), "throws." + want.getSimpleName());
    }

    static void finish() {
        System.out.println(checked + " checks, " + wrong + " wrong");
        if (wrong != 0 || checked == 0) {
            System.exit(1);
        }
    }
}
