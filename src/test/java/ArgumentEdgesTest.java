import java.util.NoSuchElementException;
import java.util.function.BiFunction;
import java.util.function.Supplier;

/**
 * The ranges of all arguments, for each call that takes them: the values just inside and just outside, and far ones
 * up to the smallest and the largest int; and which exception comes first where several apply.
 */
public final class ArgumentEdgesTest {
    private static final int[] FAR = {Integer.MIN_VALUE, Integer.MIN_VALUE + 1, -65536, -256, -2,
        256, 65536, 65537, Integer.MAX_VALUE - 1, Integer.MAX_VALUE};

    private ArgumentEdgesTest() { }

    public static void main(String[] args) {
        players();
        slots();
        kinds();
        placesOfBenchAt();
        placesOfBoardAt();
        placesOnTheBench();
        placesOnTheBoard();
        numbers();
        tellThrowsForTheNumberFirst();
        rollAndBuyLevelThrowForThePlayerFirst();
        buyThrowsForPlayerOrSlotFirst();
        buyThrowsForAnEmptySlotNext();
        toBoardThrowsForThePlaceFirst();
        toBenchThrowsForThePlaceFirst();
        fightsThrowForThePlayersFirst();
        Checks.finish();
    }

    private static int[] outside(int first, int last) {
        int[] outside = new int[FAR.length + 2];
        System.arraycopy(FAR, 0, outside, 0, FAR.length);
        outside[FAR.length] = first - 1;
        outside[FAR.length + 1] = last + 1;
        return outside;
    }

    /** For each argument in the range the call answers, for others it throws this and changes nothing. */
    private static void range(String what, int first, int last, Class<? extends RuntimeException> want,
            Supplier<Gladehall> setUp, BiFunction<Gladehall, Integer, Object> call) {
        for (int argument = first; argument <= last; argument++) {
            String outcome = Checks.outcome(with(setUp, call, argument));
            Checks.due(what + " of " + argument + " throws", outcome.startsWith("throws."), false);
        }
        for (int argument : outside(first, last)) {
            Halls.throwsAndChangesNothing(what + " of " + argument, want, setUp, hall -> call.apply(hall, argument));
        }
    }

    private static Supplier<Object> with(Supplier<Gladehall> setUp, BiFunction<Gladehall, Integer, Object> call,
            int argument) {
        return () -> call.apply(setUp.get(), argument);
    }

    private static void range(String what, int first, int last, Supplier<Gladehall> setUp,
            BiFunction<Gladehall, Integer, Object> call) {
        range(what, first, last, IndexOutOfBoundsException.class, setUp, call);
    }

    /** Each player has the level 2, some gold, and a unit in its last slot, on its bench and on its board. */
    private static Gladehall ready() {
        Gladehall hall = new Gladehall();
        for (int player = 0; player < Halls.PLAYERS; player++) {
            hall.buyLevel(player);
            Halls.field(hall, player);
            hall.buy(player, 1);
        }
        Halls.roundOfLockedShops(hall);
        return hall;
    }

    // "There are the players 0 to 3"; "IndexOutOfBoundsException is thrown if there is no such player"

    private static void players() {
        Supplier<Gladehall> setUp = ArgumentEdgesTest::ready;
        range("roll", 0, 3, setUp, Gladehall::roll);
        range("toggleLock", 0, 3, setUp, Gladehall::toggleLock);
        range("buyLevel", 0, 3, setUp, Gladehall::buyLevel);
        range("buy", 0, 3, setUp, (hall, player) -> hall.buy(player, 2));
        range("sell", 0, 3, setUp, (hall, player) -> hall.sell(player, 0));
        range("toBoard", 0, 3, setUp, (hall, player) -> hall.toBoard(player, 0));
        range("toBench", 0, 3, setUp, (hall, player) -> hall.toBench(player, 0));
        range("fight", 0, 3, setUp, (hall, player) -> hall.fight(player, player == 0 ? 1 : 0));
        range("fight as other", 0, 3, setUp, (hall, other) -> hall.fight(other == 3 ? 2 : 3, other));
        range("fightByRecord", 0, 3, setUp, (hall, player) -> hall.fightByRecord(player, player == 0 ? 1 : 0));
        range("fightByRecord as other", 0, 3, setUp, (hall, other) -> hall.fightByRecord(other == 3 ? 2 : 3, other));
        range("gold", 0, 3, setUp, Gladehall::gold);
        range("health", 0, 3, setUp, Gladehall::health);
        range("streak", 0, 3, setUp, Gladehall::streak);
        range("shopAt", 0, 3, setUp, (hall, player) -> hall.shopAt(player, 2));
        range("benchAt", 0, 3, setUp, (hall, player) -> hall.benchAt(player, 0));
        range("boardAt", 0, 3, setUp, (hall, player) -> hall.boardAt(player, 0));
        range("blow", 0, 3, setUp, (hall, player) -> hall.blow(player, 0));
    }

    private static Gladehall rolled() {
        Gladehall hall = new Gladehall();
        hall.roll(3);
        return hall;
    }

    /** "slot: 0 to 2". */
    private static void slots() {
        range("buy from a slot", 0, 2, ArgumentEdgesTest::rolled, (hall, slot) -> hall.buy(3, slot));
        range("shopAt a slot", 0, 2, ArgumentEdgesTest::rolled, (hall, slot) -> hall.shopAt(3, slot));
        range("shopAt a slot of an empty shop", 0, 2, Gladehall::new, (hall, slot) -> hall.shopAt(0, slot));
    }

    /** "the kinds of units 0 to 8". */
    private static void kinds() {
        range("pool", 0, 8, ArgumentEdgesTest::ready, Gladehall::pool);
        range("out", 0, 8, ArgumentEdgesTest::ready, Gladehall::out);
    }

    /** The player 1 has six units on its bench, the place 0 of its board empty. */
    private static Gladehall fullBench() {
        Gladehall hall = Halls.grown();
        for (int kind = 0; kind < 6; kind++) {
            Halls.buy(hall, 1, kind, 1);
        }
        return hall;
    }

    /** The player 1 has five units on its board, its bench is empty. */
    private static Gladehall fullBoard() {
        Gladehall hall = Halls.grown();
        Halls.board(hall, 1, 0, 1, 2, 3, 4);
        return hall;
    }

    /** "place: 0 to 5 .. if place is out of its range": the range is the same for an empty and for a full bench. */
    private static void placesOfBenchAt() {
        range("benchAt, empty", 0, 5, Gladehall::new, (hall, place) -> hall.benchAt(1, place));
        range("benchAt, full", 0, 5, ArgumentEdgesTest::fullBench, (hall, place) -> hall.benchAt(1, place));
    }

    /** "place: 0 to 4 .. if place is out of its range": so too beyond the level, and for a full board. */
    private static void placesOfBoardAt() {
        range("boardAt, empty", 0, 4, Gladehall::new, (hall, place) -> hall.boardAt(1, place));
        range("boardAt, full", 0, 4, ArgumentEdgesTest::fullBoard, (hall, place) -> hall.boardAt(1, place));
    }

    /** "place: from 0 .. of the player or the place on the bench": no place is there behind the last unit. */
    private static void placesOnTheBench() {
        range("sell from a full bench", 0, 5, ArgumentEdgesTest::fullBench, (hall, place) -> hall.sell(1, place));
        range("sell from a bench of one", 0, 0, ArgumentEdgesTest::ready, (hall, place) -> hall.sell(1, place));
        range("sell from an empty bench", 0, -1, ArgumentEdgesTest::fullBoard, (hall, place) -> hall.sell(1, place));
        range("toBoard from a full bench", 0, 5, ArgumentEdgesTest::fullBench,
            (hall, place) -> hall.toBoard(1, place));
        range("toBoard from a bench of one", 0, 0, ArgumentEdgesTest::ready, (hall, place) -> hall.toBoard(1, place));
        range("toBoard from an empty bench", 0, -1, Gladehall::new, (hall, place) -> hall.toBoard(1, place));
    }

    /** "place: from 0 .. of the player or the place on the board": no place is there behind the last unit. */
    private static void placesOnTheBoard() {
        range("toBench from a full board", 0, 4, ArgumentEdgesTest::fullBoard,
            (hall, place) -> hall.toBench(1, place));
        range("toBench from a board of one", 0, 0, ArgumentEdgesTest::ready, (hall, place) -> hall.toBench(1, place));
        range("toBench from an empty board", 0, -1, Gladehall::new, (hall, place) -> hall.toBench(1, place));
        range("blow on a full board", 0, 4, ArgumentEdgesTest::fullBoard, (hall, place) -> hall.blow(1, place));
        range("blow on a board of one", 0, 0, ArgumentEdgesTest::ready, (hall, place) -> hall.blow(1, place));
        range("blow on an empty board", 0, -1, Gladehall::new, (hall, place) -> hall.blow(1, place));
    }

    /** "number: 0 to 1000". */
    private static void numbers() {
        for (int number : new int[] {0, 1, 255, 256, 999, 1000}) {
            Checks.due("tell of " + number, new Gladehall().tell(number), 1);
        }
        for (int number : new int[] {Integer.MIN_VALUE, Integer.MIN_VALUE + 1, -65536, -2, -1,
                1001, 1002, 65536, Integer.MAX_VALUE - 1, Integer.MAX_VALUE}) {
            Halls.throwsAndChangesNothing("tell of " + number, IllegalArgumentException.class,
                ArgumentEdgesTest::ready, hall -> hall.tell(number));
        }
    }

    // "If several exceptions apply to a call, the one that its throws clause names first is thrown"

    private static Gladehall hundredTold() {
        Gladehall hall = new Gladehall();
        for (int i = 0; i < 100; i++) {
            hall.tell(i);
        }
        return hall;
    }

    private static void tellThrowsForTheNumberFirst() {
        for (int number : new int[] {-1, 1001}) {
            Halls.throwsAndChangesNothing("tell(" + number + ") if 100 are left", IllegalArgumentException.class,
                ArgumentEdgesTest::hundredTold, hall -> hall.tell(number));
        }
    }

    private static Gladehall nobodyHasGold() {
        Gladehall hall = new Gladehall();
        for (int player = 0; player < Halls.PLAYERS; player++) {
            Halls.spendDownTo(hall, player, 0);
        }
        return hall;
    }

    private static void rollAndBuyLevelThrowForThePlayerFirst() {
        for (int player : new int[] {-1, 4}) {
            Halls.throwsAndChangesNothing("roll(" + player + "), nobody having gold",
                IndexOutOfBoundsException.class, ArgumentEdgesTest::nobodyHasGold, hall -> hall.roll(player));
            Halls.throwsAndChangesNothing("buyLevel(" + player + "), nobody having gold",
                IndexOutOfBoundsException.class, ArgumentEdgesTest::nobodyHasGold, hall -> hall.buyLevel(player));
            Halls.throwsAndChangesNothing("buyLevel(" + player + "), all having the level 5",
                IndexOutOfBoundsException.class, Halls::grown, hall -> hall.buyLevel(player));
        }
    }

    /** The player 0 has a full bench, no gold, and an empty slot 0 beside two units. */
    private static Gladehall worst() {
        Gladehall hall = Halls.rich();
        for (int kind = 0; kind < 6; kind++) {
            Halls.buy(hall, 0, kind, 1);
        }
        Halls.spendDownTo(hall, 0, 1);
        hall.roll(0);
        hall.toBoard(0, 5);
        hall.sell(0, 0);
        hall.buy(0, 0);
        hall.toBench(0, 0);
        Checks.due("a full bench, no gold, a slot empty", Halls.bench(hall, 0) + " / " + hall.gold(0) + " / "
            + Halls.shop(hall, 0), "11 21 31 41 1 51 / 0 / -1 0 0");
        return hall;
    }

    private static void buyThrowsForPlayerOrSlotFirst() {
        for (int wrong : new int[] {-1, 4}) {
            Halls.throwsAndChangesNothing("buy(" + wrong + ", 0), the slot empty",
                IndexOutOfBoundsException.class, ArgumentEdgesTest::worst, hall -> hall.buy(wrong, 0));
            Halls.throwsAndChangesNothing("buy(" + wrong + ", 3)",
                IndexOutOfBoundsException.class, ArgumentEdgesTest::worst, hall -> hall.buy(wrong, 3));
        }
        for (int slot : new int[] {-1, 3}) {
            Halls.throwsAndChangesNothing("buy(0, " + slot + "), the bench full, no gold",
                IndexOutOfBoundsException.class, ArgumentEdgesTest::worst, hall -> hall.buy(0, slot));
            Halls.throwsAndChangesNothing("buy(0, " + slot + "), the shop empty",
                IndexOutOfBoundsException.class, Gladehall::new, hall -> hall.buy(0, slot));
        }
    }

    private static void buyThrowsForAnEmptySlotNext() {
        Halls.throwsAndChangesNothing("buy from an empty slot, the bench full, no gold",
            NoSuchElementException.class, ArgumentEdgesTest::worst, hall -> hall.buy(0, 0));
        Halls.throwsAndChangesNothing("buy, the bench full, no gold",
            IllegalStateException.class, ArgumentEdgesTest::worst, hall -> hall.buy(0, 1));
    }

    private static void toBoardThrowsForThePlaceFirst() {
        for (int place : new int[] {-1, 0, 5, 6}) {
            Halls.throwsAndChangesNothing("toBoard(1, " + place + "), the bench empty, the board full",
                IndexOutOfBoundsException.class, ArgumentEdgesTest::fullBoard, hall -> hall.toBoard(1, place));
        }
        Halls.throwsAndChangesNothing("toBoard(4, 0), all boards full", IndexOutOfBoundsException.class,
            ArgumentEdgesTest::fullBoard, hall -> hall.toBoard(4, 0));
    }

    private static void toBenchThrowsForThePlaceFirst() {
        for (int place : new int[] {-1, 0, 1, 5}) {
            Halls.throwsAndChangesNothing("toBench(1, " + place + "), the board empty, the bench full",
                IndexOutOfBoundsException.class, ArgumentEdgesTest::fullBench, hall -> hall.toBench(1, place));
        }
    }

    private static void fightsThrowForThePlayersFirst() {
        for (int player : outside(0, 3)) {
            Halls.throwsAndChangesNothing("fight of " + player + " with itself", IndexOutOfBoundsException.class,
                ArgumentEdgesTest::ready, hall -> hall.fight(player, player));
            Halls.throwsAndChangesNothing("record of " + player + " with itself", IndexOutOfBoundsException.class,
                ArgumentEdgesTest::ready, hall -> hall.fightByRecord(player, player));
        }
        for (int player = 0; player < Halls.PLAYERS; player++) {
            int same = player;
            Halls.throwsAndChangesNothing("fight of " + same + " with itself", IllegalArgumentException.class,
                ArgumentEdgesTest::ready, hall -> hall.fight(same, same));
            Halls.throwsAndChangesNothing("record of " + same + " with itself", IllegalArgumentException.class,
                ArgumentEdgesTest::ready, hall -> hall.fightByRecord(same, same));
        }
    }
}
