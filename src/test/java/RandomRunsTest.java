import java.util.Random;
import java.util.TreeMap;

/**
 * Runs of up to 512 calls on a Gladehall and on a PlainHall, whose answers and exceptions must be alike, for all
 * promises. The seeds are fixed, so that each time the same runs are made.
 */
public final class RandomRunsTest {
    private static final int RUNS = 3000;
    /** lookAtAll makes 87 calls, and collect, which may go ahead of it, up to 8. */
    private static final int KEPT_TO_LOOK = 87 + 8;
    private static final int[] WRONG = {-1, 3, 4, 5, 6, 9, 1001, Integer.MIN_VALUE, Integer.MAX_VALUE};
    private static final TreeMap<String, Integer> SEEN = new TreeMap<>();

    private final Random random;
    private final Gladehall hall = new Gladehall();
    private final PlainHall plain = new PlainHall();
    private final StringBuilder calls = new StringBuilder();
    private final int favourite;
    private boolean alike = true;
    private int left = 512;

    private RandomRunsTest(long seed) {
        random = new Random(seed);
        favourite = random.nextInt(9);
    }

    public static void main(String[] args) {
        for (long seed = 0; seed < RUNS; seed++) {
            RandomRunsTest run = new RandomRunsTest(seed);
            run.play((int) (seed % 3));
            Checks.due("run " + seed + " is alike", run.alike, true);
        }
        for (String rare : new String[] {"three stars", "no health", "100 gold", "200 rounds", "empty slot",
                "100 numbers", "a full bench", "a full board of five"}) {
            Checks.due("the runs came upon " + rare, SEEN.getOrDefault(rare, 0) > 0, true);
        }
        Checks.finish();
    }

    private void play(int style) {
        int rich = style == 0 ? 0 : 10 + random.nextInt(12);
        for (int i = 0; i < rich; i++) {
            lockAll();
            make("round", 0, 0);
        }
        if (random.nextInt(8) == 0) {
            for (int i = 0; i < 102; i++) {
                make("tell", random.nextInt(1001), 0);
            }
        }
        boolean toTheLastRound = random.nextInt(10) == 0;
        int keep = toTheLastRound ? KEPT_TO_LOOK + 202 : KEPT_TO_LOOK;
        while (left > keep && alike) {
            if (style == 2 && random.nextInt(3) > 0) {
                collect(random.nextInt(4));
            } else {
                makeAny();
            }
        }
        while (toTheLastRound && left > KEPT_TO_LOOK && alike) {
            make("round", 0, 0);
        }
        lookAtAll();
    }

    private void lockAll() {
        for (int player = 0; player < 4; player++) {
            make("toggleLock", player, 0);
        }
    }

    /** Tries to come by many units alike, by numbers that point at one kind. */
    private void collect(int player) {
        int place = 0;
        for (int kind = 0; kind < favourite; kind++) {
            place += (Integer) plain.answer("pool", kind, 0);
        }
        for (int slot = 0; slot < 3; slot++) {
            make("tell", place, 0);
        }
        make(random.nextInt(4) == 0 ? "buyLevel" : "roll", player, 0);
        for (int slot = 0; slot < 3; slot++) {
            make("buy", player, slot);
        }
        make("toBoard", player, 0);
    }

    private void makeAny() {
        int player = random.nextInt(40) == 0 ? wrong() : random.nextInt(4);
        int small = random.nextInt(40) == 0 ? wrong() : random.nextInt(3);
        int place = random.nextInt(40) == 0 ? wrong() : random.nextInt(6);
        switch (random.nextInt(20)) {
            case 0: case 1: case 2:
                make("tell", random.nextInt(40) == 0 ? wrong() : random.nextInt(1001), 0);
                break;
            case 3: case 4: make("roll", player, 0); break;
            case 5: make("toggleLock", player, 0); break;
            case 6: make("buyLevel", player, 0); break;
            case 7: case 8: case 9: case 10: make("buy", player, small); break;
            case 11: make("sell", player, place); break;
            case 12: case 13: case 14: make("toBoard", player, random.nextBoolean() ? 0 : place); break;
            case 15: make("toBench", player, random.nextBoolean() ? 0 : place); break;
            case 16: make("round", 0, 0); break;
            case 17: make("fight", player, random.nextInt(4)); break;
            case 18: make("fightByRecord", random.nextInt(4), player); break;
            default: ask(player, small, place); break;
        }
    }

    private void ask(int player, int small, int place) {
        switch (random.nextInt(9)) {
            case 0: make("gold", player, 0); break;
            case 1: make("health", player, 0); break;
            case 2: make("streak", player, 0); break;
            case 3: make("shopAt", player, small); break;
            case 4: make("benchAt", player, place); break;
            case 5: make("boardAt", player, place); break;
            case 6: make("blow", player, place); break;
            case 7: make("pool", random.nextInt(9), 0); break;
            default: make("out", place, 0); break;
        }
    }

    private int wrong() {
        return WRONG[random.nextInt(WRONG.length)];
    }

    private void lookAtAll() {
        make("rounds", 0, 0);
        for (int player = 0; player < 4; player++) {
            for (String call : new String[] {"gold", "health", "streak"}) {
                make(call, player, 0);
            }
            for (int place = 0; place < 6; place++) {
                make("benchAt", player, place);
            }
            for (int place = 0; place < 5; place++) {
                make("boardAt", player, place);
            }
            for (int slot = 0; slot < 3; slot++) {
                make("shopAt", player, slot);
            }
        }
        for (int kind = 0; kind < 9; kind++) {
            make("pool", kind, 0);
            make("out", kind, 0);
        }
    }

    private void make(String call, int a, int b) {
        if (!alike) {
            return;
        }
        left--;
        if (left < 0) {
            throw new AssertionError("a run of more than 512 calls");
        }
        calls.append(call).append('(').append(a).append(", ").append(b).append(") ");
        String got = Checks.outcome(() -> answer(call, a, b));
        String want = Checks.outcome(() -> plain.answer(call, a, b));
        note(call, want);
        if (!got.equals(want)) {
            alike = false;
            System.out.println(calls + "answered " + got + ", due is " + want);
        }
    }

    private static void note(String call, String answer) {
        boolean refused = answer.equals("throws.IllegalStateException");
        see("three stars", call.endsWith("At") && !call.equals("shopAt") && answer.endsWith("3"));
        see("no health", call.equals("health") && answer.equals("0"));
        see("100 gold", call.equals("gold") && answer.equals("100"));
        see("200 rounds", call.equals("round") && refused);
        see("empty slot", call.equals("shopAt") && answer.equals("-1"));
        see("100 numbers", call.equals("tell") && answer.equals("100"));
        see("a full bench", call.equals("toBench") && refused);
        see("a full board of five", call.equals("toBoard") && answer.equals("5"));
    }

    private static void see(String what, boolean seen) {
        if (seen) {
            SEEN.merge(what, 1, Integer::sum);
        }
    }

    private Object answer(String call, int a, int b) {
        switch (call) {
            case "tell": return hall.tell(a);
            case "roll": return hall.roll(a);
            case "toggleLock": return hall.toggleLock(a);
            case "buyLevel": return hall.buyLevel(a);
            case "buy": return hall.buy(a, b);
            case "sell": return hall.sell(a, b);
            case "toBoard": return hall.toBoard(a, b);
            case "toBench": return hall.toBench(a, b);
            case "round": return hall.round();
            case "rounds": return hall.rounds();
            case "fight": return hall.fight(a, b);
            case "fightByRecord": return hall.fightByRecord(a, b);
            case "gold": return hall.gold(a);
            case "health": return hall.health(a);
            case "streak": return hall.streak(a);
            case "shopAt": return hall.shopAt(a, b);
            case "benchAt": return hall.benchAt(a, b);
            case "boardAt": return hall.boardAt(a, b);
            case "blow": return hall.blow(a, b);
            case "pool": return hall.pool(a);
            case "out": return hall.out(a);
            default: throw new AssertionError(call);
        }
    }
}
