import java.util.NoSuchElementException;

/** The boundary cases of promises 1 to 5 and 17: each test is one sentence of the document, told above it. */
public final class ShopEdgesTest {
    private ShopEdgesTest() { }

    public static void main(String[] args) {
        poolHasNineOfEachKindAtFirst();
        shopsAreEmptyAtFirst();
        shopsAreUnlockedAtFirst();
        levelsAreOneAtFirst();
        noNumbersAreLeftAtFirst();
        tellCountsUpToAHundred();
        tellRefusesIfAHundredAreLeft();
        tellGoesOnWhenSomeAreUsedUp();
        numbersKeepTheirOrderRoundTheHundred();
        missingNumbersAreZero();
        unitsOfTheShopGoBackFirst();
        emptySlotsGiveNothingBack();
        costIsAtMostTheLevelAndOne();
        unitsAreLaidByTheirKinds();
        placeIsTheRemainder();
        remainderIsByTheUnitsThatAreLeft();
        numbersAreUsedWhateverThePoolHas();
        emptyPoolUpToTheCost();
        emptyPool();
        lastUnitOfThePool();
        rollForTheLastGold();
        rollRefusesWithoutGold();
        rollUnlocks();
        rollLeavesOtherShops();
        lockTogglesAnyShop();
        levelForTheLastFourGold();
        levelRefusesForFewerGold();
        levelFive();
        levelFiveWithoutGold();
        shopAtShowsKindsAndNone();
        Checks.finish();
    }

    private static String pools(Gladehall hall) {
        return Halls.all(hall, hall::pool, Halls.KINDS);
    }

    private static String outs(Gladehall hall) {
        return Halls.all(hall, hall::out, Halls.KINDS);
    }

    /** Tells these numbers to a new hall and rolls for player 0; the level is 1. */
    private static String shopOf(int... numbers) {
        return shopAtLevel(1, numbers);
    }

    private static String shopAtLevel(int level, int... numbers) {
        Gladehall hall = level > 3 ? Halls.rich() : new Gladehall();
        Halls.levels(hall, 0, level - 1);
        for (int number : numbers) {
            hall.tell(number);
        }
        hall.roll(0);
        return Halls.shop(hall, 0);
    }

    // Promise 1

    /** "The pool has 9 units of each kind at first." */
    private static void poolHasNineOfEachKindAtFirst() {
        Checks.due("the pool at first", pools(new Gladehall()), "9 9 9 9 9 9 9 9 9");
        Checks.due("out at first", outs(new Gladehall()), "0 0 0 0 0 0 0 0 0");
    }

    /** "shops are empty." */
    private static void shopsAreEmptyAtFirst() {
        for (int player = 0; player < Halls.PLAYERS; player++) {
            Checks.due("a shop at first", Halls.shop(new Gladehall(), player), "-1 -1 -1");
        }
    }

    /** "a shop .. which is locked or not": it is not, as the first round fills it. */
    private static void shopsAreUnlockedAtFirst() {
        Gladehall hall = new Gladehall();
        hall.round();
        for (int player = 0; player < Halls.PLAYERS; player++) {
            Checks.due("a shop behind the first round", hall.shopAt(player, 0) != Gladehall.NONE, true);
            Checks.due("the first toggle locks", new Gladehall().toggleLock(player), true);
        }
    }

    /** "a level, 1 to 5, 1 at first". */
    private static void levelsAreOneAtFirst() {
        for (int player = 0; player < Halls.PLAYERS; player++) {
            Checks.due("the first level bought", new Gladehall().buyLevel(player), 2);
        }
    }

    /** "Returns how many are left then": none at first. */
    private static void noNumbersAreLeftAtFirst() {
        Checks.due("the first number", new Gladehall().tell(0), 1);
    }

    // Promise 2

    private static Gladehall told(int count) {
        Gladehall hall = Halls.rich();
        for (int i = 0; i < count; i++) {
            hall.tell(i);
        }
        return hall;
    }

    private static void tellCountsUpToAHundred() {
        Checks.due("tell if 98 are left", told(98).tell(1000), 99);
        Checks.due("tell if 99 are left", told(99).tell(0), 100);
    }

    /** "Throws IllegalStateException if 100 are left". */
    private static void tellRefusesIfAHundredAreLeft() {
        for (int number : new int[] {0, 500, 1000}) {
            Halls.throwsAndChangesNothing("tell(" + number + ") if 100 are left", IllegalStateException.class,
                () -> told(100), hall -> hall.tell(number));
        }
    }

    private static void tellGoesOnWhenSomeAreUsedUp() {
        Gladehall hall = told(100);
        hall.roll(2);
        for (int left = 98; left <= 100; left++) {
            Checks.due("tell behind a roll", hall.tell(9), left);
        }
        Checks.throwsDue("tell if 100 are left again", IllegalStateException.class, () -> hall.tell(9));
        hall.round();
        Checks.due("tell behind a round that used twelve", hall.tell(9), 89);
    }

    /** "Numbers are told and used up in the order in which they were told", for more than twice a hundred of them. */
    private static void numbersKeepTheirOrderRoundTheHundred() {
        Gladehall hall = Halls.rich();
        for (int three = 0; three < 33; three++) {
            tellThree(hall, three);
        }
        for (int three = 0; three < 38; three++) {
            hall.roll(1);
            int kind = three % 6;
            Checks.due("shop " + three, Halls.shop(hall, 1), kind + " " + kind + " " + kind);
            tellThree(hall, three + 33);
        }
        Checks.due("still as many are left", hall.tell(0), 100);
    }

    /** Three numbers by which a shop is filled with one kind, if all other units are in the pool. */
    private static void tellThree(Gladehall hall, int three) {
        for (int i = 0; i < 3; i++) {
            hall.tell(9 * (three % 6));
        }
    }

    /** "if none is left, it is 0", in the midst of a shop too. */
    private static void missingNumbersAreZero() {
        Checks.due("no number", shopOf(), "0 0 0");
        Checks.due("one number", shopOf(53), "5 0 0");
        Checks.due("two numbers", shopOf(53, 52), "5 5 0");
        Checks.due("three numbers", shopOf(53, 52, 51), "5 5 5");
        Gladehall hall = new Gladehall();
        for (int i = 0; i < 4; i++) {
            hall.tell(51);
        }
        hall.roll(0);
        Checks.due("a fourth number is left", hall.tell(0), 2);
        hall.roll(0);
        Checks.due("two of three numbers", Halls.shop(hall, 0), "5 0 0");
        Checks.due("none is left then", hall.tell(0), 1);
    }

    // Filling a shop

    /** "the units in it go back to the pool; then for each slot ..": all of them ahead of the first slot. */
    private static void unitsOfTheShopGoBackFirst() {
        Gladehall hall = new Gladehall();
        for (int number : new int[] {53, 52, 51, 53, 52, 51}) {
            hall.tell(number);
        }
        hall.roll(0);
        Checks.due("the pool of a filled shop", pools(hall), "9 9 9 9 9 6 9 9 9");
        hall.roll(0);
        Checks.due("filled with the same units again", Halls.shop(hall, 0), "5 5 5");
        hall.roll(0);
        Checks.due("they went back", pools(hall), "6 9 9 9 9 9 9 9 9");
        Checks.due("and are out no more", outs(hall), "3 0 0 0 0 0 0 0 0");
    }

    private static void emptySlotsGiveNothingBack() {
        Gladehall hall = new Gladehall();
        hall.roll(0);
        hall.buy(0, 0);
        hall.buy(0, 2);
        hall.tell(52);
        hall.roll(0);
        Checks.due("one of three went back", Halls.shop(hall, 0), "0 0 0");
        Checks.due("the pool then", pools(hall), "4 9 9 9 9 9 9 9 9");
        Checks.due("out then", outs(hall), "5 0 0 0 0 0 0 0 0");
    }

    /** "the units in the pool whose cost is at most the level and 1". */
    private static void costIsAtMostTheLevelAndOne() {
        Checks.due("level 1, the last unit of cost 2", shopAtLevel(1, 53), "5 0 0");
        Checks.due("level 1, behind it", shopAtLevel(1, 54), "0 0 0");
        Checks.due("level 2, the first unit of cost 3", shopAtLevel(2, 54), "6 0 0");
        for (int level = 2; level <= 5; level++) {
            Checks.due("level " + level + ", the last unit of all", shopAtLevel(level, 80), "8 0 0");
            Checks.due("level " + level + ", behind it", shopAtLevel(level, 81), "0 0 0");
        }
    }

    /** "laid in a row by their kinds, the lowest kind first, the one whose place, from 0, is the number". */
    private static void unitsAreLaidByTheirKinds() {
        for (int kind = 0; kind < Halls.KINDS; kind++) {
            Checks.due("the first place of kind " + kind, shopAtLevel(2, 9 * kind), kind + " 0 0");
            Checks.due("the last place of kind " + kind, shopAtLevel(2, 9 * kind + 8), kind + " 0 0");
        }
    }

    /** "is the number by their count (the remainder)". */
    private static void placeIsTheRemainder() {
        Checks.due("the count less 1", shopOf(53), "5 0 0");
        Checks.due("the count", shopOf(54), "0 0 0");
        Checks.due("the count and 9", shopOf(63), "1 0 0");
        Checks.due("twice the count less 1", shopOf(107), "5 0 0");
        Checks.due("twice the count", shopOf(108), "0 0 0");
        Checks.due("1000 by 54 leaves 28", shopOf(1000), "3 0 0");
        Checks.due("1000 by 81 leaves 28", shopAtLevel(2, 1000), "3 0 0");
        Checks.due("999 by 81 leaves 27", shopAtLevel(2, 999), "3 0 0");
        Checks.due("998 by 81 leaves 26", shopAtLevel(2, 998), "2 0 0");
    }

    /** The count is that of the units in the pool then: one less for each slot filled. */
    private static void remainderIsByTheUnitsThatAreLeft() {
        Checks.due("53 by 53 in the second slot", shopOf(0, 53), "0 0 0");
        Checks.due("52 by 53 in the second slot", shopOf(0, 52), "0 5 0");
        Checks.due("52 by 52 in the third slot", shopOf(0, 0, 52), "0 0 0");
        Checks.due("51 by 52 in the third slot", shopOf(0, 0, 51), "0 0 5");
        Gladehall hall = new Gladehall();
        hall.roll(3);
        hall.tell(50);
        hall.tell(50);
        hall.roll(0);
        Checks.due("50 by 51, then 50 by 50, with three in another shop", Halls.shop(hall, 0), "5 0 0");
    }

    /** Buys three times as many units, of the lowest kinds that the pool has; the first nine go to the board as one. */
    private static void buyOut(Gladehall hall, int player, int rolls) {
        for (int i = 0; i < rolls; i++) {
            if (i == 3) {
                hall.toBoard(player, 0);
            }
            hall.roll(player);
            for (int slot = 0; slot < 3; slot++) {
                hall.buy(player, slot);
            }
        }
    }

    /** The players 0 and 3 have bought each unit of cost 1 and 2; the level of player 1 is 1. */
    private static Gladehall emptyUpToCostTwo() {
        Gladehall hall = Halls.rich();
        buyOut(hall, 0, 9);
        buyOut(hall, 3, 9);
        Checks.due("the pool, empty up to cost 2", pools(hall), "0 0 0 0 0 0 9 9 9");
        return hall;
    }

    /** Player 2 has bought each unit of cost 3 too. */
    private static Gladehall empty() {
        Gladehall hall = emptyUpToCostTwo();
        hall.buyLevel(2);
        buyOut(hall, 2, 9);
        Checks.due("the empty pool", pools(hall), "0 0 0 0 0 0 0 0 0");
        Checks.due("all units are out", outs(hall), "9 9 9 9 9 9 9 9 9");
        return hall;
    }

    /** "the next number is used up, whatever the pool has". */
    private static void numbersAreUsedWhateverThePoolHas() {
        Gladehall hall = emptyUpToCostTwo();
        for (int i = 0; i < 4; i++) {
            hall.tell(1000);
        }
        hall.roll(1);
        Checks.due("three numbers are used up for no unit", hall.tell(0), 2);
    }

    /** "if there are none, it is empty": none whose cost is at most the level and 1. */
    private static void emptyPoolUpToTheCost() {
        Gladehall hall = emptyUpToCostTwo();
        Checks.due("a roll still takes its gold", hall.roll(1), 99);
        Checks.due("a shop of level 1", Halls.shop(hall, 1), "-1 -1 -1");
        Checks.throwsDue("nothing to buy", NoSuchElementException.class, () -> hall.buy(1, 1));
        hall.buyLevel(1);
        hall.tell(26);
        hall.roll(1);
        Checks.due("a shop of level 2", Halls.shop(hall, 1), "8 6 6");
        hall.tell(27);
        hall.tell(26);
        hall.roll(1);
        Checks.due("27 by 27 and 26 by 26", Halls.shop(hall, 1), "6 6 6");
    }

    /** "if there are none, it is empty": none at all. */
    private static void emptyPool() {
        Gladehall hall = empty();
        hall.roll(2);
        Checks.due("a shop of level 2", Halls.shop(hall, 2), "-1 -1 -1");
        hall.round();
        for (int player = 0; player < Halls.PLAYERS; player++) {
            Checks.due("a shop behind a round", Halls.shop(hall, player), "-1 -1 -1");
        }
        hall.sell(0, 0);
        Checks.due("nine units sold are in the pool", pools(hall), "0 9 0 0 0 0 0 0 0");
        hall.tell(8);
        hall.tell(8);
        hall.tell(7);
        hall.roll(3);
        Checks.due("and come into a shop", Halls.shop(hall, 3), "1 1 1");
    }

    private static void lastUnitOfThePool() {
        Gladehall hall = Halls.rich();
        buyOut(hall, 0, 9);
        buyOut(hall, 3, 8);
        hall.roll(3);
        hall.buy(3, 0);
        hall.buy(3, 1);
        Checks.due("the last one is in the shop", Halls.shop(hall, 3) + " / " + pools(hall),
            "-1 -1 5 / 0 0 0 0 0 0 9 9 9");
        hall.tell(1);
        hall.tell(1000);
        hall.roll(3);
        Checks.due("it comes into the first slot, none behind it", Halls.shop(hall, 3), "5 -1 -1");
        Checks.due("three numbers or noughts are used up", hall.tell(0), 1);
    }

    // Promise 3

    private static void rollForTheLastGold() {
        Gladehall hall = Halls.withGold(1, 2);
        Checks.due("roll with 2 gold", hall.roll(1), 1);
        Checks.due("roll with 1 gold", hall.roll(1), 0);
        Checks.due("the gold then", hall.gold(1), 0);
    }

    /** "Throws IllegalStateException if the player has no gold". */
    private static void rollRefusesWithoutGold() {
        for (int player = 0; player < Halls.PLAYERS; player++) {
            int poor = player;
            Halls.throwsAndChangesNothing("roll without gold", IllegalStateException.class,
                () -> lockedWithoutGold(poor), hall -> hall.roll(poor));
        }
    }

    private static Gladehall lockedWithoutGold(int player) {
        Gladehall hall = Halls.withGold(player, 0);
        hall.toggleLock(player);
        hall.tell(30);
        return hall;
    }

    /** "it is not locked then", whether it was or not. */
    private static void rollUnlocks() {
        Gladehall hall = new Gladehall();
        hall.roll(0);
        Checks.due("an unlocked shop stays so", hall.toggleLock(0), true);
        hall.roll(0);
        hall.tell(53);
        hall.round();
        Checks.due("a locked shop is filled by the round behind a roll", Halls.shop(hall, 0), "5 0 0");
    }

    private static void rollLeavesOtherShops() {
        Gladehall hall = new Gladehall();
        hall.toggleLock(1);
        hall.roll(1);
        hall.toggleLock(1);
        hall.roll(0);
        Checks.due("the shop of another", Halls.shop(hall, 1), "0 0 0");
        Checks.due("the gold of another", hall.gold(1), 9);
        Checks.due("the lock of another", hall.toggleLock(1), false);
    }

    // Promise 4

    /** "Locks the shop of a player, or not any more": also an empty one, and again and again. */
    private static void lockTogglesAnyShop() {
        Gladehall hall = new Gladehall();
        for (int i = 0; i < 7; i++) {
            Checks.due("toggle " + i, hall.toggleLock(2), i % 2 == 0);
        }
        hall.round();
        Checks.due("an empty locked shop is not filled", Halls.shop(hall, 2), "-1 -1 -1");
        Checks.due("nor locked behind the round", hall.toggleLock(2), true);
        hall.toggleLock(2);
        hall.round();
        Checks.due("a shop unlocked again is filled", hall.shopAt(2, 0) != Gladehall.NONE, true);
    }

    // Promise 5

    private static void levelForTheLastFourGold() {
        Gladehall hall = Halls.withGold(3, 4);
        Checks.due("buyLevel with 4 gold", hall.buyLevel(3), 2);
        Checks.due("the gold then", hall.gold(3), 0);
        Gladehall richer = Halls.withGold(3, 5);
        Checks.due("buyLevel with 5 gold", richer.buyLevel(3) + " " + richer.gold(3), "2 1");
    }

    /** "Throws IllegalStateException if the player has fewer gold". */
    private static void levelRefusesForFewerGold() {
        for (int gold = 0; gold < 4; gold++) {
            int few = gold;
            Halls.throwsAndChangesNothing("buyLevel with " + gold + " gold", IllegalStateException.class,
                () -> Halls.withGold(3, few), hall -> hall.buyLevel(3));
        }
    }

    private static Gladehall levelFour() {
        Gladehall hall = Halls.rich();
        Halls.levels(hall, 0, 3);
        return hall;
    }

    /** "or the level is 5": the fifth can be bought, none behind it. */
    private static void levelFive() {
        Checks.due("buyLevel at level 4", levelFour().buyLevel(0), 5);
        Halls.throwsAndChangesNothing("buyLevel at level 5", IllegalStateException.class,
            Halls::grown, hall -> hall.buyLevel(0));
    }

    private static void levelFiveWithoutGold() {
        Halls.throwsAndChangesNothing("buyLevel at level 5 with 3 gold", IllegalStateException.class, () -> {
            Gladehall hall = Halls.grown();
            Halls.spendDownTo(hall, 2, 3);
            return hall;
        }, hall -> hall.buyLevel(2));
    }

    // Promise 17

    /** "Returns the kind in a slot of a shop; NONE if it is empty." */
    private static void shopAtShowsKindsAndNone() {
        Gladehall hall = new Gladehall();
        hall.buyLevel(1);
        hall.tell(0);
        hall.tell(79);
        hall.tell(40);
        hall.roll(1);
        Checks.due("the lowest kind, the highest and one between", Halls.shop(hall, 1), "0 8 4");
        hall.buy(1, 1);
        Checks.due("a slot bought empty", Halls.shop(hall, 1), "0 -1 4");
        hall.buy(1, 0);
        Checks.due("two slots bought empty", Halls.shop(hall, 1), "-1 -1 4");
        hall.roll(1);
        Checks.due("filled again", Halls.shop(hall, 1), "0 0 0");
    }
}
