import java.io.IOException;
import java.lang.reflect.Method;
import java.lang.reflect.Modifier;
import java.nio.file.Files;
import java.nio.file.Path;

/** README.md tells how the class is used: its example must answer what it says there, and each call must be named. */
public final class ReadmeTest {
    private static String readme;

    private ReadmeTest() { }

    public static void main(String[] args) throws IOException {
        readme = Files.readString(Path.of("README.md"));
        theExampleHolds();
        eachCallIsNamed();
        Checks.finish();
    }

    private static void theExampleHolds() {
        Gladehall hall = new Gladehall();
        told("hall.tell(20);", hall.tell(20));
        told("hall.roll(0);", hall.roll(0));
        Checks.due("the shop that the example tells", Halls.shop(hall, 0), "2 0 0");
        told("hall.buy(0, 0);", hall.buy(0, 0));
        told("hall.toBoard(0, 0);", hall.toBoard(0, 0));
        told("hall.boardAt(0, 0);", hall.boardAt(0, 0));
        told("hall.blow(0, 0);", hall.blow(0, 0));
        told("hall.fight(0, 1);", hall.fight(0, 1));
        told("hall.round();", hall.round());
        told("hall.streak(0);", hall.streak(0));
        told("hall.health(1);", hall.health(1));
        long calls = readme.lines().filter(line -> line.startsWith("hall.")).count();
        Checks.due("the calls of the example", calls, 10L);
    }

    /** The line of the example that has this call says behind it what it answered. */
    private static void told(String call, int answer) {
        String line = readme.lines().filter(l -> l.startsWith(call)).findFirst().orElse("none");
        String said = line.substring(Math.min(call.length(), line.length())).strip();
        Checks.due(call + " is told with its answer: " + line, said.startsWith("// " + answer + ":"), true);
    }

    private static void eachCallIsNamed() {
        String table = String.join("\n", readme.lines().filter(line -> line.startsWith("|")).toList());
        for (Method method : Gladehall.class.getDeclaredMethods()) {
            if (Modifier.isPublic(method.getModifiers())) {
                String name = "`" + method.getName() + "(";
                Checks.due("the table names " + name, table.contains(name), true);
            }
        }
    }
}
