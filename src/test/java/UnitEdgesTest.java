import java.util.NoSuchElementException;

/** The boundary cases of promises 6 to 9, 18, 19, 21 and 22: each test is one sentence of the document. */
public final class UnitEdgesTest {
    private UnitEdgesTest() { }

    public static void main(String[] args) {
        eachKindHasItsCost();
        buyForTheLastGold();
        buyRefusesForLessGold();
        buyComesToTheEndOfTheBench();
        buyRefusesAnEmptySlot();
        benchHoldsSix();
        buyRefusesOntoAFullBench();
        sixthUnitMayMerge();
        twoDoNotMerge();
        threeMerge();
        unlikeStarsDoNotMerge();
        unlikeKindsDoNotMerge();
        unitsOfOthersAndShopsDoNotMerge();
        mergeAtThePlaceOfTheFirst();
        mergeOnTheBoardAheadOfTheBench();
        mergeAgainWithTheOutcome();
        mergeAcrossBoardAndBenchAgain();
        mergeFreesABoard();
        onlyABuyBringsAboutAThree();
        sellPaysForEachKindAndStars();
        sellPaysUpToAHundred();
        sellClosesTheBench();
        boardHoldsAsManyAsTheLevel();
        toBoardRefusesBeyondTheLevel();
        toBoardMovesToTheEnd();
        toBenchUpToSix();
        toBenchRefusesOntoAFullBench();
        toBenchMovesToTheEnd();
        movesKeepTheStars();
        benchAtAndBoardAtShowUnitsAndNone();
        poolAndOutFromNoneToNine();
        outCountsShopsBenchesAndBoards();
        Checks.finish();
    }

    private static String rows(Gladehall hall, int player) {
        return Halls.board(hall, player) + " / " + Halls.bench(hall, player);
    }

    private static int cost(int kind) {
        return kind < 3 ? 1 : kind < 6 ? 2 : 3;
    }

    /** Player 0 has just so much gold, at most 5, and a shop of three units of the kind. */
    private static Gladehall offering(int kind, int gold) {
        Gladehall hall = Halls.withGold(0, gold + 5);
        hall.buyLevel(0);
        Halls.offer(hall, 0, kind);
        Checks.due("gold and shop", hall.gold(0) + ": " + Halls.shop(hall, 0),
            gold + ": " + kind + " " + kind + " " + kind);
        return hall;
    }

    // Promise 6

    /** "The kind k has the cost k / 3 and 1 (1, 2 or 3)". */
    private static void eachKindHasItsCost() {
        int[] due = {1, 1, 1, 2, 2, 2, 3, 3, 3};
        for (int kind = 0; kind < Halls.KINDS; kind++) {
            Checks.due("gold behind a buy of kind " + kind, offering(kind, 5).buy(0, 1), 5 - due[kind]);
        }
    }

    private static void buyForTheLastGold() {
        for (int kind = 0; kind < Halls.KINDS; kind++) {
            Gladehall hall = offering(kind, cost(kind));
            Checks.due("buy of kind " + kind + " for the last gold", hall.buy(0, 2), 0);
            Checks.due("it is on the bench", hall.benchAt(0, 0), 10 * kind + 1);
        }
    }

    /** "Throws IllegalStateException if the player has less gold". */
    private static void buyRefusesForLessGold() {
        for (int kind = 0; kind < Halls.KINDS; kind++) {
            for (int gold = 0; gold < cost(kind); gold++) {
                int bought = kind;
                int few = gold;
                Halls.throwsAndChangesNothing("buy of kind " + kind + " with " + gold + " gold",
                    IllegalStateException.class, () -> offering(bought, few), hall -> hall.buy(0, 0));
            }
        }
    }

    /** "it comes to the end of the bench", from each slot, which is empty then. */
    private static void buyComesToTheEndOfTheBench() {
        Gladehall hall = new Gladehall();
        for (int number : new int[] {0, 13, 26}) {
            hall.tell(number);
        }
        hall.roll(0);
        Checks.due("the shop", Halls.shop(hall, 0), "0 1 3");
        hall.buy(0, 2);
        Checks.due("the slot 2 bought", Halls.shop(hall, 0) + " / " + Halls.bench(hall, 0),
            "0 1 -1 / 31 -1 -1 -1 -1 -1");
        hall.buy(0, 0);
        Checks.due("the slot 0 bought", Halls.shop(hall, 0) + " / " + Halls.bench(hall, 0),
            "-1 1 -1 / 31 1 -1 -1 -1 -1");
        hall.buy(0, 1);
        Checks.due("the slot 1 bought", Halls.shop(hall, 0) + " / " + Halls.bench(hall, 0),
            "-1 -1 -1 / 31 1 11 -1 -1 -1");
    }

    /** "Throws java.util.NoSuchElementException if the slot is empty". */
    private static void buyRefusesAnEmptySlot() {
        for (int number = 0; number < 3; number++) {
            int slot = number;
            Halls.throwsAndChangesNothing("buy from the slot " + slot + " of a new shop",
                NoSuchElementException.class, Gladehall::new, hall -> hall.buy(3, slot));
            Halls.throwsAndChangesNothing("buy from the slot " + slot + " again", NoSuchElementException.class, () -> {
                Gladehall hall = offering(4, 5);
                hall.buy(0, slot);
                return hall;
            }, hall -> hall.buy(0, slot));
        }
    }

    /** So many units of unlike kinds on the bench of player 0; the next three kinds may be had. */
    private static Gladehall benchOf(int count) {
        Gladehall hall = Halls.grown();
        for (int kind = 0; kind < count; kind++) {
            Halls.buy(hall, 0, kind, 1);
        }
        return hall;
    }

    /** "a bench, a row of at most 6 units". */
    private static void benchHoldsSix() {
        Gladehall hall = benchOf(5);
        Halls.buy(hall, 0, 5, 1);
        Checks.due("a sixth unit", Halls.bench(hall, 0), "1 11 21 31 41 51");
    }

    /** "or the bench has 6 units": even if the seventh would merge, or much gold is there. */
    private static void buyRefusesOntoAFullBench() {
        Halls.throwsAndChangesNothing("buy of a seventh unit", IllegalStateException.class, () -> {
            Gladehall hall = benchOf(6);
            Halls.offer(hall, 0, 8);
            return hall;
        }, hall -> hall.buy(0, 0));
        Halls.throwsAndChangesNothing("buy of a seventh unit that would merge", IllegalStateException.class, () -> {
            Gladehall hall = benchOf(4);
            Halls.buy(hall, 0, 7, 2);
            return hall;
        }, hall -> hall.buy(0, 2));
        Halls.throwsAndChangesNothing("buy of a seventh unit that would merge on the board",
            IllegalStateException.class, UnitEdgesTest::fullBenchAndTwoOnTheBoard, hall -> hall.buy(0, 2));
    }

    /** Two units of kind 8 on the board, six of other kinds on the bench, and three of kind 8 in the shop. */
    private static Gladehall fullBenchAndTwoOnTheBoard() {
        Gladehall hall = Halls.grown();
        Halls.board(hall, 0, 8, 8);
        for (int kind = 0; kind < 6; kind++) {
            Halls.buy(hall, 0, kind, 1);
        }
        Halls.offer(hall, 0, 8);
        return hall;
    }

    // Merging

    private static void sixthUnitMayMerge() {
        Gladehall hall = fullBenchAndTwoOnTheBoard();
        hall.sell(0, 5);
        hall.buy(0, 2);
        Checks.due("a sixth unit merges away", rows(hall, 0), "82 -1 -1 -1 -1 / 1 11 21 31 41 -1");
        Gladehall second = benchOf(3);
        Halls.buy(second, 0, 7, 3);
        Checks.due("a sixth unit merges on the bench", Halls.bench(second, 0), "1 11 21 72 -1 -1");
    }

    private static void twoDoNotMerge() {
        Gladehall hall = Halls.grown();
        Halls.buy(hall, 0, 0, 2);
        Checks.due("two on the bench", Halls.bench(hall, 0), "1 1 -1 -1 -1 -1");
        hall.toBoard(0, 0);
        Checks.due("one on board and bench each", rows(hall, 0), "1 -1 -1 -1 -1 / 1 -1 -1 -1 -1 -1");
        hall.toBoard(0, 0);
        Checks.due("two on the board", rows(hall, 0), "1 1 -1 -1 -1 / -1 -1 -1 -1 -1 -1");
    }

    /** "three units of one kind with the same stars": for each kind. */
    private static void threeMerge() {
        for (int kind = 0; kind < Halls.KINDS; kind++) {
            Gladehall hall = Halls.grown();
            Halls.buy(hall, 0, kind, 3);
            Checks.due("three of kind " + kind, Halls.bench(hall, 0), 10 * kind + 2 + " -1 -1 -1 -1 -1");
            Checks.due("they stand for 3", hall.out(kind), 3);
        }
    }

    private static void unlikeStarsDoNotMerge() {
        Gladehall hall = Halls.grown();
        Halls.buy(hall, 0, 6, 5);
        Checks.due("one with two stars, two with one", Halls.bench(hall, 0), "62 61 61 -1 -1 -1");
        Halls.buy(hall, 0, 6, 3);
        Checks.due("two with two stars, two with one", Halls.bench(hall, 0), "62 62 61 61 -1 -1");
    }

    private static void unlikeKindsDoNotMerge() {
        Gladehall hall = Halls.grown();
        for (int kind : new int[] {3, 4, 5, 0, 6}) {
            Halls.buy(hall, 0, kind, 1);
        }
        Checks.due("one cost, and one kin", Halls.bench(hall, 0), "31 41 51 1 61 -1");
    }

    private static void unitsOfOthersAndShopsDoNotMerge() {
        Gladehall hall = Halls.grown();
        Halls.buy(hall, 1, 2, 2);
        Checks.due("two, and a third in the shop", Halls.bench(hall, 1) + " / " + Halls.shop(hall, 1),
            "21 21 -1 -1 -1 -1 / -1 -1 2");
        Halls.buy(hall, 2, 2, 1);
        Checks.due("two, and a third of another player", Halls.bench(hall, 1) + " / " + Halls.bench(hall, 2),
            "21 21 -1 -1 -1 -1 / 21 -1 -1 -1 -1 -1");
    }

    /** "they become one with 1 star more, at the place of the first of them ..; the other two are gone". */
    private static void mergeAtThePlaceOfTheFirst() {
        Gladehall hall = Halls.grown();
        for (int kind : new int[] {4, 7, 5, 7, 6}) {
            Halls.buy(hall, 0, kind, 1);
        }
        Checks.due("the bench ahead", Halls.bench(hall, 0), "41 71 51 71 61 -1");
        Halls.buy(hall, 0, 7, 1);
        Checks.due("the bench then", Halls.bench(hall, 0), "41 72 51 61 -1 -1");
    }

    /** "board ahead of bench", even if the one on the board came later or stands further behind. */
    private static void mergeOnTheBoardAheadOfTheBench() {
        Gladehall hall = Halls.grown();
        Halls.buy(hall, 0, 7, 2);
        Halls.buy(hall, 0, 4, 1);
        hall.toBoard(0, 2);
        hall.toBoard(0, 1);
        Checks.due("one on the bench, one on the board", rows(hall, 0), "41 71 -1 -1 -1 / 71 -1 -1 -1 -1 -1");
        Halls.buy(hall, 0, 7, 1);
        Checks.due("the one on the board stays", rows(hall, 0), "41 72 -1 -1 -1 / -1 -1 -1 -1 -1 -1");
        Gladehall second = Halls.grown();
        Halls.board(second, 0, 3, 7, 4, 7, 5);
        Halls.buy(second, 0, 7, 1);
        Checks.due("two on the board, the first stays", rows(second, 0), "31 72 41 51 -1 / -1 -1 -1 -1 -1 -1");
    }

    /** "as long as the player has three ..", with fewer than 3 stars: three with 2 stars become one with 3. */
    private static void mergeAgainWithTheOutcome() {
        for (int kind = 0; kind < Halls.KINDS; kind++) {
            Gladehall hall = Halls.grown();
            Halls.buy(hall, 3, kind, 8);
            int two = 10 * kind + 2;
            int one = 10 * kind + 1;
            Checks.due("eight units", Halls.bench(hall, 3), two + " " + two + " " + one + " " + one + " -1 -1");
            Halls.buy(hall, 3, kind, 1);
            Checks.due("the ninth unit", Halls.bench(hall, 3), 10 * kind + 3 + " -1 -1 -1 -1 -1");
            Checks.due("they stand for 9", hall.pool(kind) + " " + hall.out(kind), "0 9");
        }
    }

    private static void mergeAcrossBoardAndBenchAgain() {
        Gladehall hall = Halls.grown();
        Halls.buy(hall, 0, 5, 6);
        hall.toBoard(0, 1);
        Halls.buy(hall, 0, 8, 1);
        hall.toBoard(0, 1);
        Halls.buy(hall, 0, 5, 2);
        hall.toBoard(0, 2);
        Checks.due("eight units", rows(hall, 0), "52 81 51 -1 -1 / 52 51 -1 -1 -1 -1");
        Halls.buy(hall, 0, 5, 1);
        Checks.due("the place on the board, twice", rows(hall, 0), "53 81 -1 -1 -1 / -1 -1 -1 -1 -1 -1");
        Gladehall second = Halls.grown();
        Halls.buy(second, 0, 5, 8);
        second.toBoard(0, 3);
        Checks.due("eight units, one on the board", rows(second, 0), "51 -1 -1 -1 -1 / 52 52 51 -1 -1 -1");
        Halls.buy(second, 0, 5, 1);
        Checks.due("the new one on the board is the first", rows(second, 0), "53 -1 -1 -1 -1 / -1 -1 -1 -1 -1 -1");
    }

    private static void mergeFreesABoard() {
        Gladehall hall = Halls.grown();
        Halls.board(hall, 0, 1, 2, 1, 3, 4);
        Halls.buy(hall, 0, 5, 1);
        Checks.throwsDue("toBoard onto a full board", IllegalStateException.class, () -> hall.toBoard(0, 0));
        Halls.buy(hall, 0, 1, 1);
        Checks.due("toBoard behind a merging", hall.toBoard(0, 0), 5);
        Checks.due("the rows", rows(hall, 0), "12 21 31 41 51 / -1 -1 -1 -1 -1 -1");
    }

    /** "Whenever a unit comes to the bench": one that comes from the board finds no two others alike. */
    private static void onlyABuyBringsAboutAThree() {
        Gladehall hall = Halls.grown();
        Halls.board(hall, 0, 1, 1);
        Halls.buy(hall, 0, 2, 1);
        hall.toBench(0, 0);
        hall.toBench(0, 0);
        Checks.due("two alike on the bench", rows(hall, 0), "-1 -1 -1 -1 -1 / 21 11 11 -1 -1 -1");
        Halls.buy(hall, 0, 1, 1);
        Checks.due("and a third", rows(hall, 0), "-1 -1 -1 -1 -1 / 21 12 -1 -1 -1 -1");
    }

    // Promise 7

    /** "for its cost times the units of the pool for which it stands, which go back". */
    private static void sellPaysForEachKindAndStars() {
        int[] stands = {0, 1, 3, 9};
        for (int kind = 0; kind < Halls.KINDS; kind++) {
            for (int stars = 1; stars <= 3; stars++) {
                Gladehall hall = Halls.grown();
                Halls.buy(hall, 2, kind, stands[stars]);
                hall.roll(2);
                int pool = hall.pool(kind);
                int gold = hall.gold(2);
                String what = "sell of kind " + kind + " with " + stars + " stars";
                Checks.due(what, hall.sell(2, 0), gold + cost(kind) * stands[stars]);
                Checks.due(what + ": the gold", hall.gold(2), gold + cost(kind) * stands[stars]);
                Checks.due(what + ": the pool", hall.pool(kind), pool + stands[stars]);
                Checks.due(what + ": the bench", hall.benchAt(2, 0), Gladehall.NONE);
            }
        }
    }

    /** Player 0 has a unit with so many stars on its bench, and just so much gold. */
    private static Gladehall holding(int kind, int stars, int gold) {
        Gladehall hall = Halls.grown();
        Halls.buy(hall, 0, kind, stars == 1 ? 1 : stars == 2 ? 3 : 9);
        for (int i = 0; i < 17 && hall.gold(0) < 100; i++) {
            Halls.roundOfLockedShops(hall);
        }
        Halls.spendDownTo(hall, 0, gold);
        return hall;
    }

    /** "but the player has at most 100 gold". */
    private static void sellPaysUpToAHundred() {
        int[][] dues = {
            {0, 1, 98, 99}, {0, 1, 99, 100}, {0, 1, 100, 100},
            {4, 2, 93, 99}, {4, 2, 94, 100}, {4, 2, 95, 100},
            {8, 1, 97, 100}, {8, 1, 98, 100},
            {8, 3, 72, 99}, {8, 3, 73, 100}, {8, 3, 74, 100}, {8, 3, 100, 100},
        };
        for (int[] due : dues) {
            Gladehall hall = holding(due[0], due[1], due[2]);
            String what = "sell of kind " + due[0] + " with " + due[1] + " stars and " + due[2] + " gold";
            Checks.due(what, hall.sell(0, 0), due[3]);
            Checks.due(what + ": the gold", hall.gold(0), due[3]);
        }
    }

    private static void sellClosesTheBench() {
        Gladehall hall = benchOf(6);
        hall.sell(0, 5);
        Checks.due("the last of six sold", Halls.bench(hall, 0), "1 11 21 31 41 -1");
        hall.sell(0, 0);
        Checks.due("the first sold", Halls.bench(hall, 0), "11 21 31 41 -1 -1");
        hall.sell(0, 2);
        Checks.due("one between sold", Halls.bench(hall, 0), "11 21 41 -1 -1 -1");
        Checks.throwsDue("sell behind the end", IndexOutOfBoundsException.class, () -> hall.sell(0, 3));
        hall.sell(0, 0);
        hall.sell(0, 0);
        hall.sell(0, 0);
        Checks.due("all sold", Halls.bench(hall, 0), "-1 -1 -1 -1 -1 -1");
        Checks.throwsDue("sell from the empty bench", IndexOutOfBoundsException.class, () -> hall.sell(0, 0));
    }

    // Promises 8 and 9

    /** "a board, a row of at most as many units as its level". */
    private static void boardHoldsAsManyAsTheLevel() {
        Gladehall hall = Halls.rich();
        for (int kind = 0; kind < 6; kind++) {
            Halls.buy(hall, 0, kind, 1);
        }
        for (int level = 1; level <= 5; level++) {
            if (level > 1) {
                hall.buyLevel(0);
            }
            Checks.due("toBoard at level " + level, hall.toBoard(0, 0), level);
            Checks.throwsDue("toBoard again at level " + level, IllegalStateException.class, () -> hall.toBoard(0, 0));
        }
        Checks.due("the rows", rows(hall, 0), "1 11 21 31 41 / 51 -1 -1 -1 -1 -1");
    }

    private static Gladehall fullBoard(int level) {
        Gladehall hall = Halls.rich();
        Halls.levels(hall, 0, level - 1);
        for (int kind = 0; kind < level; kind++) {
            Halls.board(hall, 0, kind);
        }
        Halls.buy(hall, 0, 5, 2);
        return hall;
    }

    /** "Throws IllegalStateException if the board has as many as the level". */
    private static void toBoardRefusesBeyondTheLevel() {
        for (int number = 1; number <= 5; number++) {
            int level = number;
            for (int place = 0; place < 2; place++) {
                int from = place;
                Halls.throwsAndChangesNothing("toBoard(0, " + place + ") onto a board of " + level,
                    IllegalStateException.class, () -> fullBoard(level), hall -> hall.toBoard(0, from));
            }
        }
    }

    private static void toBoardMovesToTheEnd() {
        Gladehall hall = benchOf(6);
        Checks.due("toBoard of the last", hall.toBoard(0, 5), 1);
        Checks.due("toBoard of the first", hall.toBoard(0, 0), 2);
        Checks.due("toBoard of one between", hall.toBoard(0, 1), 3);
        Checks.due("the rows", rows(hall, 0), "51 1 21 -1 -1 / 11 31 41 -1 -1 -1");
    }

    /** Units of unlike kinds: one on the board of player 0, so many on its bench. */
    private static Gladehall oneOnTheBoard(int onTheBench) {
        Gladehall hall = Halls.grown();
        Halls.board(hall, 0, 8);
        for (int kind = 0; kind < onTheBench; kind++) {
            Halls.buy(hall, 0, kind, 1);
        }
        return hall;
    }

    private static void toBenchUpToSix() {
        for (int count = 0; count < 6; count++) {
            Gladehall hall = oneOnTheBoard(count);
            Checks.due("toBench onto a bench of " + count, hall.toBench(0, 0), count + 1);
            Checks.due("the end of the bench", hall.benchAt(0, count), 81);
            Checks.due("the board", Halls.board(hall, 0), "-1 -1 -1 -1 -1");
        }
    }

    /** "Throws IllegalStateException if the bench has 6". */
    private static void toBenchRefusesOntoAFullBench() {
        Halls.throwsAndChangesNothing("toBench onto a full bench", IllegalStateException.class,
            () -> oneOnTheBoard(6), hall -> hall.toBench(0, 0));
    }

    private static void toBenchMovesToTheEnd() {
        Gladehall hall = Halls.grown();
        Halls.board(hall, 0, 0, 1, 2, 3, 4);
        Checks.due("toBench of the last", hall.toBench(0, 4), 1);
        Checks.due("toBench of the first", hall.toBench(0, 0), 2);
        Checks.due("toBench of one between", hall.toBench(0, 1), 3);
        Checks.due("the rows", rows(hall, 0), "11 31 -1 -1 -1 / 41 1 21 -1 -1 -1");
    }

    private static void movesKeepTheStars() {
        Gladehall hall = Halls.grown();
        Halls.team(hall, 1, 72);
        Halls.buy(hall, 1, 2, 9);
        hall.toBoard(1, 0);
        Halls.buy(hall, 1, 6, 1);
        Checks.due("two and three stars on the board", rows(hall, 1), "72 23 -1 -1 -1 / 61 -1 -1 -1 -1 -1");
        hall.toBench(1, 1);
        hall.toBench(1, 0);
        Checks.due("on the bench", rows(hall, 1), "-1 -1 -1 -1 -1 / 61 23 72 -1 -1 -1");
        hall.toBoard(1, 2);
        hall.toBoard(1, 1);
        Checks.due("and on the board again", rows(hall, 1), "72 23 -1 -1 -1 / 61 -1 -1 -1 -1 -1");
        Checks.due("pool and out of them", hall.pool(7) + " " + hall.out(7) + " " + hall.pool(2) + " " + hall.out(2),
            "6 3 0 9");
    }

    // Promises 18 and 19

    /** "10 times its kind and its stars, added; NONE if there are not so many": the least, the most, and none. */
    private static void benchAtAndBoardAtShowUnitsAndNone() {
        Gladehall hall = Halls.grown();
        Checks.due("no unit", rows(hall, 0), "-1 -1 -1 -1 -1 / -1 -1 -1 -1 -1 -1");
        Halls.buy(hall, 0, 8, 9);
        Halls.buy(hall, 0, 0, 1);
        Checks.due("the most and the least on the bench", rows(hall, 0), "-1 -1 -1 -1 -1 / 83 1 -1 -1 -1 -1");
        hall.toBoard(0, 0);
        hall.toBoard(0, 0);
        Checks.due("and on the board", rows(hall, 0), "83 1 -1 -1 -1 / -1 -1 -1 -1 -1 -1");
        Checks.due("the last place of a full bench", benchOf(6).benchAt(0, 5), 51);
        Checks.due("the last place of a bench of five", benchOf(5).benchAt(0, 5), Gladehall.NONE);
        Checks.due("the last place of a full board", fullBoard(5).boardAt(0, 4), 41);
        Checks.due("the last place of a board of four", fullBoard(4).boardAt(0, 4), Gladehall.NONE);
    }

    // Promises 21 and 22

    private static void poolAndOutFromNoneToNine() {
        for (int kind = 0; kind < Halls.KINDS; kind++) {
            Gladehall hall = Halls.grown();
            Checks.due("at first, kind " + kind, hall.pool(kind) + " " + hall.out(kind), "9 0");
            for (int count = 3; count <= 9; count += 3) {
                String due = 9 - count + " " + count;
                Halls.offer(hall, 0, kind);
                Checks.due("offered, kind " + kind, hall.pool(kind) + " " + hall.out(kind), due);
                for (int slot = 0; slot < 3; slot++) {
                    hall.buy(0, slot);
                    Checks.due("bought, kind " + kind, hall.pool(kind) + " " + hall.out(kind), due);
                }
            }
            hall.toBoard(0, 0);
            Checks.due("on the board, kind " + kind, hall.pool(kind) + " " + hall.out(kind), "0 9");
            hall.toBench(0, 0);
            hall.sell(0, 0);
            Checks.due("sold, kind " + kind, hall.pool(kind) + " " + hall.out(kind), "9 0");
        }
    }

    /** "those of a kind in all shops, on all benches and boards": of each player. */
    private static void outCountsShopsBenchesAndBoards() {
        for (int player = 0; player < Halls.PLAYERS; player++) {
            Gladehall hall = Halls.grown();
            Halls.buy(hall, player, 5, 3);
            hall.toBoard(player, 0);
            Checks.due("on the board", hall.pool(5) + " " + hall.out(5), "6 3");
            Halls.buy(hall, player, 5, 1);
            Checks.due("on the bench, and two in the shop", hall.pool(5) + " " + hall.out(5), "3 6");
            Halls.offer(hall, (player + 1) % 4, 5);
            Checks.due("in another shop", hall.pool(5) + " " + hall.out(5), "0 9");
            hall.sell(player, 0);
            Checks.due("one sold", hall.pool(5) + " " + hall.out(5), "1 8");
            hall.toBench(player, 0);
            hall.sell(player, 0);
            Checks.due("three sold", hall.pool(5) + " " + hall.out(5), "4 5");
            Checks.due("another kind", hall.pool(4) + " " + hall.out(4), "9 0");
        }
    }
}
