import java.util.NoSuchElementException;

/** Promises 6 to 9, 18, 19, 21 and 22: units bought, merged, sold and moved, and where they are. */
public final class UnitsTest {
    private static final int[] NO_PLAYERS = {-1, 4, Integer.MIN_VALUE, Integer.MAX_VALUE};

    private UnitsTest() { }

    public static void main(String[] args) {
        buyTakesTheUnit();
        buyRefuses();
        buyForTheLastGold();
        threeMerge();
        threeTwosMergeToo();
        ninthUnitMergesTwice();
        mergingOnTheBoard();
        mergingTakesFromBoardAndBench();
        sellPays();
        sellPaysForStars();
        sellPaysUpToAHundred();
        sellRefuses();
        toBoardMoves();
        toBoardRefuses();
        toBenchMoves();
        toBenchRefuses();
        benchAtRefuses();
        boardAtRefuses();
        poolAndOutCount();
        poolAndOutRefuse();
        Checks.finish();
    }

    // Promise 6

    private static void buyTakesTheUnit() {
        Gladehall hall = Halls.grown();
        Halls.offer(hall, 1, 4);
        Checks.due("gold ahead", hall.gold(1), 83);
        Checks.due("a unit of cost 2", hall.buy(1, 1), 81);
        Checks.due("the shop", Halls.shop(hall, 1), "4 -1 4");
        Halls.offer(hall, 1, 8);
        Checks.due("a unit of cost 3", hall.buy(1, 2), 77);
        Halls.offer(hall, 1, 0);
        Checks.due("a unit of cost 1", hall.buy(1, 0), 75);
        Checks.due("the bench", Halls.bench(hall, 1), "41 81 1 -1 -1 -1");
        Checks.due("another bench", Halls.bench(hall, 0), "-1 -1 -1 -1 -1 -1");
        Checks.due("the pool", Halls.all(hall, hall::pool, 9), "6 9 9 9 8 9 9 9 8");
    }

    /** Six units of unlike kinds on the bench of player 0; the shop offers a seventh kind in slot 1. */
    private static Gladehall crowded() {
        Gladehall hall = Halls.grown();
        for (int kind = 3; kind < 9; kind++) {
            Halls.buy(hall, 0, kind, 1);
        }
        Halls.offer(hall, 0, 2);
        return hall;
    }

    /** The bench is full, and a third unit alike is offered. */
    private static Gladehall crowdedWithTwoAlike() {
        Gladehall hall = Halls.grown();
        for (int kind = 3; kind < 7; kind++) {
            Halls.buy(hall, 0, kind, 1);
        }
        Halls.buy(hall, 0, 8, 2);
        return hall;
    }

    private static Gladehall oneGold() {
        Gladehall hall = new Gladehall();
        hall.buyLevel(0);
        for (int i = 0; i < 4; i++) {
            hall.roll(0);
        }
        hall.tell(80);
        hall.tell(27);
        hall.roll(0);
        Checks.due("one gold and three costs", hall.gold(0) + ": " + Halls.shop(hall, 0), "1: 8 3 0");
        return hall;
    }

    private static void buyRefuses() {
        for (int player : NO_PLAYERS) {
            Halls.throwsAndChangesNothing("buy(" + player + ", 0)", IndexOutOfBoundsException.class,
                UnitsTest::crowded, hall -> hall.buy(player, 0));
        }
        for (int slot : new int[] {-1, 3, Integer.MIN_VALUE, Integer.MAX_VALUE}) {
            Halls.throwsAndChangesNothing("buy(0, " + slot + ")", IndexOutOfBoundsException.class,
                UnitsTest::crowded, hall -> hall.buy(0, slot));
        }
        Halls.throwsAndChangesNothing("buy from an empty slot", NoSuchElementException.class,
            Gladehall::new, hall -> hall.buy(0, 2));
        Halls.throwsAndChangesNothing("buy onto a full bench", IllegalStateException.class,
            UnitsTest::crowded, hall -> hall.buy(0, 1));
        Halls.throwsAndChangesNothing("buy onto a full bench what would merge", IllegalStateException.class,
            UnitsTest::crowdedWithTwoAlike, hall -> hall.buy(0, 2));
        Halls.throwsAndChangesNothing("an empty slot ahead of a full bench", NoSuchElementException.class,
            UnitsTest::crowdedWithTwoAlike, hall -> hall.buy(0, 0));
        Halls.throwsAndChangesNothing("buy for 3 with 1", IllegalStateException.class,
            UnitsTest::oneGold, hall -> hall.buy(0, 0));
        Halls.throwsAndChangesNothing("buy for 2 with 1", IllegalStateException.class,
            UnitsTest::oneGold, hall -> hall.buy(0, 1));
    }

    private static void buyForTheLastGold() {
        Gladehall hall = oneGold();
        Checks.due("buy for 1 with 1", hall.buy(0, 2), 0);
        Checks.throwsDue("the slot bought empty, without gold", NoSuchElementException.class, () -> hall.buy(0, 2));
        Checks.throwsDue("buy without gold", IllegalStateException.class, () -> hall.buy(0, 1));
    }

    // Merging

    private static void threeMerge() {
        Gladehall hall = Halls.grown();
        Halls.buy(hall, 0, 5, 1);
        Halls.buy(hall, 0, 2, 2);
        Halls.buy(hall, 0, 7, 1);
        Checks.due("two do not merge", Halls.bench(hall, 0), "51 21 21 71 -1 -1");
        Halls.buy(hall, 0, 2, 1);
        Checks.due("three merge at the first's place", Halls.bench(hall, 0), "51 22 71 -1 -1 -1");
        Halls.buy(hall, 0, 7, 1);
        Halls.buy(hall, 0, 2, 1);
        Checks.due("unlike stars do not merge", Halls.bench(hall, 0), "51 22 71 71 21 -1");
        Halls.buy(hall, 0, 7, 1);
        Checks.due("a sixth unit comes and merges", Halls.bench(hall, 0), "51 22 72 21 -1 -1");
    }

    private static void threeTwosMergeToo() {
        Gladehall hall = Halls.grown();
        Halls.buy(hall, 2, 4, 6);
        Checks.due("two with two stars", Halls.bench(hall, 2), "42 42 -1 -1 -1 -1");
        Halls.buy(hall, 2, 8, 1);
        Halls.buy(hall, 2, 4, 2);
        Checks.due("eight units", Halls.bench(hall, 2), "42 42 81 41 41 -1");
    }

    private static void ninthUnitMergesTwice() {
        Gladehall hall = Halls.grown();
        Halls.buy(hall, 2, 8, 1);
        Halls.buy(hall, 2, 4, 9);
        Checks.due("the ninth unit", Halls.bench(hall, 2), "81 43 -1 -1 -1 -1");
        Checks.due("pool and out", hall.pool(4) + " " + hall.out(4), "0 9");
        Checks.due("gold", hall.gold(2), 84 - 4 - 3 - 18);
    }

    private static void mergingOnTheBoard() {
        Gladehall hall = Halls.grown();
        Halls.board(hall, 0, 3, 6, 3, 8);
        Checks.due("two alike on the board", Halls.board(hall, 0), "31 61 31 81 -1");
        Halls.buy(hall, 0, 7, 1);
        Halls.buy(hall, 0, 3, 1);
        Checks.due("the board closes up", Halls.board(hall, 0), "32 61 81 -1 -1");
        Checks.due("the bench", Halls.bench(hall, 0), "71 -1 -1 -1 -1 -1");
        Checks.due("a place on the board is free", hall.toBoard(0, 0), 4);
    }

    private static void mergingTakesFromBoardAndBench() {
        Gladehall hall = Halls.grown();
        Halls.buy(hall, 0, 3, 1);
        Halls.buy(hall, 0, 5, 1);
        Halls.buy(hall, 0, 3, 1);
        hall.toBoard(0, 1);
        hall.toBoard(0, 1);
        Checks.due("one on the board, one on the bench",
            Halls.board(hall, 0) + " / " + Halls.bench(hall, 0), "51 31 -1 -1 -1 / 31 -1 -1 -1 -1 -1");
        Halls.buy(hall, 0, 3, 1);
        Checks.due("the board goes ahead of the bench",
            Halls.board(hall, 0) + " / " + Halls.bench(hall, 0), "51 32 -1 -1 -1 / -1 -1 -1 -1 -1 -1");
        Halls.buy(hall, 0, 3, 3);
        Halls.buy(hall, 0, 3, 2);
        Checks.due("eight units",
            Halls.board(hall, 0) + " / " + Halls.bench(hall, 0), "51 32 -1 -1 -1 / 32 31 31 -1 -1 -1");
        hall.toBoard(0, 2);
        hall.buy(0, 2);
        Checks.due("nine units on board and bench",
            Halls.board(hall, 0) + " / " + Halls.bench(hall, 0), "51 33 -1 -1 -1 / -1 -1 -1 -1 -1 -1");
    }

    // Promise 7

    private static void sellPays() {
        Gladehall hall = crowded();
        int gold = hall.gold(0);
        Checks.due("sell for 3", hall.sell(0, 4), gold + 3);
        Checks.due("the bench", Halls.bench(hall, 0), "31 41 51 61 81 -1");
        Checks.due("sell for 2", hall.sell(0, 0), gold + 5);
        Checks.due("the bench then", Halls.bench(hall, 0), "41 51 61 81 -1 -1");
        Checks.due("sell the last one", hall.sell(0, 3), gold + 8);
        Checks.due("gold", hall.gold(0), gold + 8);
        Checks.due("the pool", Halls.all(hall, hall::pool, 9), "9 9 6 9 8 8 8 9 9");
        hall.buy(0, 0);
        Checks.due("sell for 1", hall.sell(0, 3), gold + 8);
    }

    private static void sellPaysForStars() {
        Gladehall hall = Halls.grown();
        Halls.buy(hall, 1, 7, 3);
        Checks.due("gold behind three of cost 3", hall.gold(1), 74);
        Checks.due("sell two stars", hall.sell(1, 0), 83);
        Checks.due("three units went back", hall.pool(7) + " " + hall.out(7), "9 0");
        Halls.buy(hall, 1, 7, 9);
        Checks.due("gold behind nine of cost 3", hall.gold(1), 53);
        Checks.due("sell three stars", hall.sell(1, 0), 80);
        Checks.due("nine units went back", hall.pool(7) + " " + hall.out(7), "9 0");
    }

    private static void sellPaysUpToAHundred() {
        Gladehall hall = Halls.grown();
        Halls.buy(hall, 1, 7, 3);
        for (int i = 0; i < 3; i++) {
            Halls.roundOfLockedShops(hall);
        }
        Checks.due("gold ahead", hall.gold(1), 92);
        hall.roll(1);
        Checks.due("sell for 9 with 91", hall.sell(1, 0), 100);
        Halls.buy(hall, 1, 7, 3);
        Halls.roundOfLockedShops(hall);
        Checks.due("gold ahead then", hall.gold(1), 96);
        Checks.due("sell for 9 with 96", hall.sell(1, 0), 100);
        Checks.due("gold", hall.gold(1), 100);
    }

    private static void sellRefuses() {
        for (int player : NO_PLAYERS) {
            Halls.throwsAndChangesNothing("sell(" + player + ", 0)", IndexOutOfBoundsException.class,
                UnitsTest::crowded, hall -> hall.sell(player, 0));
        }
        for (int place : new int[] {-1, 6, Integer.MIN_VALUE, Integer.MAX_VALUE}) {
            Halls.throwsAndChangesNothing("sell(0, " + place + ")", IndexOutOfBoundsException.class,
                UnitsTest::crowded, hall -> hall.sell(0, place));
        }
        Halls.throwsAndChangesNothing("sell behind the end of the bench", IndexOutOfBoundsException.class,
            UnitsTest::both, hall -> hall.sell(0, 2));
    }

    // Promises 8 and 9

    /** Player 0 has the level 3, two units on the bench and three on the board. */
    private static Gladehall both() {
        Gladehall hall = Halls.rich();
        Halls.levels(hall, 0, 2);
        Halls.board(hall, 0, 6, 7, 8);
        Halls.buy(hall, 0, 3, 1);
        Halls.buy(hall, 0, 4, 1);
        return hall;
    }

    private static void toBoardMoves() {
        Gladehall hall = Halls.rich();
        Halls.levels(hall, 0, 4);
        for (int kind = 4; kind < 9; kind++) {
            Halls.buy(hall, 0, kind, 1);
        }
        Checks.due("toBoard from the middle", hall.toBoard(0, 2), 1);
        Checks.due("toBoard from the end", hall.toBoard(0, 3), 2);
        Checks.due("toBoard from the beginning", hall.toBoard(0, 0), 3);
        Checks.due("bench and board", Halls.bench(hall, 0) + " / " + Halls.board(hall, 0),
            "51 71 -1 -1 -1 -1 / 61 81 41 -1 -1");
        Checks.due("toBoard, the fourth", hall.toBoard(0, 1), 4);
        Checks.due("toBoard, the fifth", hall.toBoard(0, 0), 5);
        Checks.due("bench and board then", Halls.bench(hall, 0) + " / " + Halls.board(hall, 0),
            "-1 -1 -1 -1 -1 -1 / 61 81 41 71 51");
        Halls.buy(hall, 0, 3, 1);
        Checks.throwsDue("toBoard, the sixth", IllegalStateException.class, () -> hall.toBoard(0, 0));
    }

    private static void toBoardRefuses() {
        for (int player : NO_PLAYERS) {
            Halls.throwsAndChangesNothing("toBoard(" + player + ", 0)", IndexOutOfBoundsException.class,
                UnitsTest::both, hall -> hall.toBoard(player, 0));
        }
        for (int place : new int[] {-1, 2, Integer.MIN_VALUE, Integer.MAX_VALUE}) {
            Halls.throwsAndChangesNothing("toBoard(0, " + place + "), the board being full",
                IndexOutOfBoundsException.class, UnitsTest::both, hall -> hall.toBoard(0, place));
        }
        Halls.throwsAndChangesNothing("toBoard beyond the level", IllegalStateException.class,
            UnitsTest::both, hall -> hall.toBoard(0, 1));
    }

    private static void toBenchMoves() {
        Gladehall hall = both();
        Checks.due("toBench from the middle", hall.toBench(0, 1), 3);
        Checks.due("toBench from the beginning", hall.toBench(0, 0), 4);
        Checks.due("bench and board", Halls.bench(hall, 0) + " / " + Halls.board(hall, 0),
            "31 41 71 61 -1 -1 / 81 -1 -1 -1 -1");
        Checks.due("pool and out of a unit moved", hall.pool(7) + " " + hall.out(7), "8 1");
    }

    /** A full bench, and one unit on the board. */
    private static Gladehall crowdedAndOne() {
        Gladehall hall = crowded();
        hall.toBoard(0, 0);
        hall.buy(0, 0);
        return hall;
    }

    private static void toBenchRefuses() {
        for (int player : NO_PLAYERS) {
            Halls.throwsAndChangesNothing("toBench(" + player + ", 0)", IndexOutOfBoundsException.class,
                UnitsTest::both, hall -> hall.toBench(player, 0));
        }
        for (int place : new int[] {-1, 3, Integer.MIN_VALUE, Integer.MAX_VALUE}) {
            Halls.throwsAndChangesNothing("toBench(0, " + place + ")", IndexOutOfBoundsException.class,
                UnitsTest::both, hall -> hall.toBench(0, place));
        }
        Halls.throwsAndChangesNothing("toBench(0, 1), the bench being full", IndexOutOfBoundsException.class,
            UnitsTest::crowdedAndOne, hall -> hall.toBench(0, 1));
        Halls.throwsAndChangesNothing("toBench onto a full bench", IllegalStateException.class,
            UnitsTest::crowdedAndOne, hall -> hall.toBench(0, 0));
    }

    // Promises 18 and 19

    private static void benchAtRefuses() {
        Gladehall hall = both();
        Checks.due("the bench", Halls.bench(hall, 0), "31 41 -1 -1 -1 -1");
        for (int player : NO_PLAYERS) {
            Checks.throwsDue("benchAt(" + player + ", 0)", IndexOutOfBoundsException.class,
                () -> hall.benchAt(player, 0));
        }
        for (int place : new int[] {-1, 6, Integer.MIN_VALUE, Integer.MAX_VALUE}) {
            Halls.throwsAndChangesNothing("benchAt(0, " + place + ")", IndexOutOfBoundsException.class,
                UnitsTest::both, other -> other.benchAt(0, place));
        }
    }

    private static void boardAtRefuses() {
        Gladehall hall = both();
        Checks.due("the board", Halls.board(hall, 0), "61 71 81 -1 -1");
        for (int player : NO_PLAYERS) {
            Checks.throwsDue("boardAt(" + player + ", 0)", IndexOutOfBoundsException.class,
                () -> hall.boardAt(player, 0));
        }
        for (int place : new int[] {-1, 5, Integer.MIN_VALUE, Integer.MAX_VALUE}) {
            Halls.throwsAndChangesNothing("boardAt(0, " + place + ")", IndexOutOfBoundsException.class,
                UnitsTest::both, other -> other.boardAt(0, place));
        }
    }

    // Promises 21 and 22

    private static void poolAndOutCount() {
        Gladehall hall = Halls.grown();
        Halls.buy(hall, 0, 6, 4);
        hall.toBoard(0, 0);
        Checks.due("two stars, one star, and two in the shop", hall.pool(6) + " " + hall.out(6), "3 6");
        Halls.offer(hall, 3, 6);
        Checks.due("three in another shop", hall.pool(6) + " " + hall.out(6), "0 9");
        hall.buy(3, 0);
        Checks.due("one of them bought", hall.pool(6) + " " + hall.out(6), "0 9");
        hall.sell(3, 0);
        Checks.due("and sold", hall.pool(6) + " " + hall.out(6), "1 8");
        Checks.due("the other kinds", Halls.all(hall, hall::pool, 9) + " / " + Halls.all(hall, hall::out, 9),
            "9 9 9 9 9 9 1 9 9 / 0 0 0 0 0 0 8 0 0");
    }

    private static void poolAndOutRefuse() {
        for (int kind : new int[] {-1, 9, Integer.MIN_VALUE, Integer.MAX_VALUE}) {
            Halls.throwsAndChangesNothing("pool(" + kind + ")", IndexOutOfBoundsException.class,
                UnitsTest::both, hall -> hall.pool(kind));
            Halls.throwsAndChangesNothing("out(" + kind + ")", IndexOutOfBoundsException.class,
                UnitsTest::both, hall -> hall.out(kind));
        }
    }
}
