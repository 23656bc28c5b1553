/** Promises 1 to 5 and 17: a new object, numbers, shops, locks, levels. */
public final class ShopsTest {
    private ShopsTest() { }

    public static void main(String[] args) {
        newObject();
        tellCounts();
        tellRefuses();
        numbersAreUsedInTheirOrder();
        numbersOfASecondHundred();
        rollFills();
        rollDependsOnTheLevel();
        rollTakesTheRemainder();
        rollOfAnEmptyPool();
        rollUnlocks();
        rollRefuses();
        lockToggles();
        lockRefuses();
        levelsAreBought();
        levelRefuses();
        shopAtRefuses();
        Checks.finish();
    }

    // Promise 1

    private static void newObject() {
        Gladehall hall = new Gladehall();
        StringBuilder player = new StringBuilder();
        for (int i = 0; i < Halls.PLAYERS; i++) {
            player.append("; player ").append(i).append(": gold 10, health 20, streak 0, shop -1 -1 -1, "
                + "bench -1 -1 -1 -1 -1 -1, board -1 -1 -1 -1 -1");
        }
        Checks.due("a new hall", Halls.picture(hall), "rounds 0" + player
            + "; pool 9 9 9 9 9 9 9 9 9; out 0 0 0 0 0 0 0 0 0");
        Checks.due("its lock", hall.toggleLock(3), true);
        Checks.due("its level", hall.buyLevel(3), 2);
        Checks.due("its numbers", hall.tell(5), 1);
        Gladehall second = new Gladehall();
        Checks.due("a second hall is its own", second.gold(3) + " " + second.tell(5), "10 1");
    }

    // Promise 2

    private static void tellCounts() {
        Gladehall hall = new Gladehall();
        Checks.due("tell(0)", hall.tell(0), 1);
        Checks.due("tell(1000)", hall.tell(1000), 2);
        hall.roll(0);
        Checks.due("tell behind a roll", hall.tell(1), 1);
        hall.tell(1);
        hall.tell(1);
        hall.tell(1);
        hall.roll(0);
        Checks.due("tell behind a roll that left one", hall.tell(1), 2);
    }

    private static Gladehall full() {
        Gladehall hall = new Gladehall();
        for (int i = 1; i <= 100; i++) {
            Checks.due("tell number " + i, hall.tell(i), i);
        }
        return hall;
    }

    private static void tellRefuses() {
        for (int number : new int[] {-1, 1001, Integer.MIN_VALUE, Integer.MAX_VALUE}) {
            Halls.throwsAndChangesNothing("tell(" + number + ")", IllegalArgumentException.class,
                Gladehall::new, hall -> hall.tell(number));
            Halls.throwsAndChangesNothing("tell(" + number + ") if 100 are left", IllegalArgumentException.class,
                ShopsTest::full, hall -> hall.tell(number));
        }
        Halls.throwsAndChangesNothing("tell(5) if 100 are left", IllegalStateException.class,
            ShopsTest::full, hall -> hall.tell(5));
    }

    private static void numbersAreUsedInTheirOrder() {
        Gladehall hall = new Gladehall();
        for (int number : new int[] {53, 0, 20, 9, 8, 7}) {
            hall.tell(number);
        }
        hall.roll(2);
        Checks.due("the first three numbers", Halls.shop(hall, 2), "5 0 2");
        hall.roll(0);
        Checks.due("the next three numbers", Halls.shop(hall, 0), "1 1 0");
        hall.roll(1);
        Checks.due("no numbers any more", Halls.shop(hall, 1), "0 0 0");
    }

    private static void numbersOfASecondHundred() {
        Gladehall hall = Halls.rich();
        for (int i = 0; i < 100; i++) {
            hall.tell(0);
        }
        for (int i = 0; i < 5; i++) {
            hall.roll(0);
            Checks.due("tell 3 more", hall.tell(52) + " " + hall.tell(26) + " " + hall.tell(0), "98 99 100");
        }
        for (int i = 0; i < 30; i++) {
            hall.roll(0);
        }
        Checks.due("the last ten and one are left", hall.tell(1), 11);
        for (int i = 0; i < 3; i++) {
            hall.roll(0);
            Checks.due("0, 52 and 26", Halls.shop(hall, 0), "0 5 3");
        }
        hall.roll(0);
        Checks.due("0, 1 and no number", Halls.shop(hall, 0), "0 0 0");
    }

    // Promise 3

    private static void rollFills() {
        Gladehall hall = new Gladehall();
        hall.tell(27);
        hall.tell(28);
        Checks.due("gold behind a roll", hall.roll(1), 9);
        Checks.due("the shop", Halls.shop(hall, 1), "3 3 0");
        Checks.due("the pool", Halls.all(hall, hall::pool, 9), "8 9 9 7 9 9 9 9 9");
        Checks.due("out", Halls.all(hall, hall::out, 9), "1 0 0 2 0 0 0 0 0");
        Checks.due("the other shops", Halls.shop(hall, 0) + Halls.shop(hall, 2), "-1 -1 -1-1 -1 -1");
        hall.tell(53);
        hall.tell(51);
        Checks.due("gold behind a second roll", hall.roll(1), 8);
        Checks.due("the shop, its units having gone back", Halls.shop(hall, 1), "5 5 0");
        Checks.due("the pool then", Halls.all(hall, hall::pool, 9), "8 9 9 9 9 7 9 9 9");
        hall.buy(1, 1);
        hall.roll(1);
        Checks.due("a bought unit does not go back", Halls.all(hall, hall::pool, 9), "6 9 9 9 9 8 9 9 9");
    }

    private static void rollDependsOnTheLevel() {
        Gladehall hall = new Gladehall();
        hall.tell(54);
        hall.tell(53);
        hall.tell(52);
        hall.roll(0);
        Checks.due("level 1: costs up to 2", Halls.shop(hall, 0), "0 0 0");
        hall.buyLevel(0);
        hall.tell(80);
        hall.tell(63);
        hall.tell(54);
        hall.roll(0);
        Checks.due("level 2: costs up to 3", Halls.shop(hall, 0), "8 7 6");
    }

    private static void rollTakesTheRemainder() {
        Gladehall hall = new Gladehall();
        hall.tell(1000);
        hall.tell(1000);
        hall.tell(999);
        hall.roll(0);
        // 1000 by 54 leaves 28, by 53 leaves 46, 999 by 52 leaves 11.
        Checks.due("the remainders", Halls.shop(hall, 0), "3 5 1");
    }

    /** The players collect all units of cost 1 and 2 but one, player 3 staying at level 1. */
    private static Gladehall allButOne() {
        Gladehall hall = Halls.rich();
        Halls.buy(hall, 0, 0, 9);
        Halls.buy(hall, 0, 1, 9);
        Halls.buy(hall, 3, 2, 9);
        Halls.buy(hall, 1, 3, 9);
        Halls.buy(hall, 1, 4, 9);
        Halls.buy(hall, 2, 5, 8);
        return hall;
    }

    private static void rollOfAnEmptyPool() {
        Gladehall hall = allButOne();
        Checks.due("the pool is empty up to cost 2", Halls.all(hall, hall::pool, 6), "0 0 0 0 0 0");
        Checks.due("the last one is in a shop", Halls.shop(hall, 2), "-1 -1 5");
        hall.tell(5);
        hall.tell(6);
        hall.tell(7);
        Checks.due("gold behind a roll that finds nothing", hall.roll(3), 87);
        Checks.due("its shop", Halls.shop(hall, 3), "-1 -1 -1");
        Checks.due("it used the numbers up", hall.tell(1000), 1);
        Checks.throwsDue("buy from it", java.util.NoSuchElementException.class, () -> hall.buy(3, 0));
        hall.tell(1);
        hall.tell(2);
        hall.roll(2);
        Checks.due("a roll that finds the last one", Halls.shop(hall, 2), "5 -1 -1");
        Checks.due("it used three numbers up", hall.tell(10), 1);
        hall.buyLevel(3);
        hall.roll(3);
        Checks.due("level 2 finds units of cost 3", Halls.shop(hall, 3), "7 6 6");
        Checks.due("the pool then", Halls.all(hall, hall::pool, 9), "0 0 0 0 0 0 7 8 9");
        Checks.due("out then", Halls.all(hall, hall::out, 9), "9 9 9 9 9 9 2 1 0");
    }

    private static void rollUnlocks() {
        Gladehall hall = new Gladehall();
        hall.toggleLock(0);
        hall.tell(53);
        hall.roll(0);
        Checks.due("a roll fills a locked shop", Halls.shop(hall, 0), "5 0 0");
        Checks.due("and it is not locked then", hall.toggleLock(0), true);
    }

    private static Gladehall poor() {
        Gladehall hall = new Gladehall();
        for (int i = 9; i >= 0; i--) {
            hall.toggleLock(2);
            Checks.due("roll down to " + i, hall.roll(2), i);
        }
        hall.toggleLock(2);
        return hall;
    }

    private static void rollRefuses() {
        for (int player : new int[] {-1, 4, Integer.MIN_VALUE, Integer.MAX_VALUE}) {
            Halls.throwsAndChangesNothing("roll(" + player + ")", IndexOutOfBoundsException.class,
                ShopsTest::poor, hall -> hall.roll(player));
        }
        Halls.throwsAndChangesNothing("roll without gold", IllegalStateException.class,
            ShopsTest::poor, hall -> hall.roll(2));
    }

    // Promise 4

    private static void lockToggles() {
        Gladehall hall = new Gladehall();
        hall.roll(1);
        Checks.due("lock", hall.toggleLock(1), true);
        Checks.due("unlock", hall.toggleLock(1), false);
        Checks.due("lock again", hall.toggleLock(1), true);
        Checks.due("another player's", hall.toggleLock(2), true);
        hall.tell(50);
        hall.round();
        Checks.due("a locked shop stays", Halls.shop(hall, 1), "0 0 0");
        Checks.due("a locked empty shop stays", Halls.shop(hall, 2), "-1 -1 -1");
        Checks.due("an unlocked one is filled", Halls.shop(hall, 0), "5 0 0");
        Checks.due("no lock behind a round", hall.toggleLock(1), true);
    }

    private static void lockRefuses() {
        for (int player : new int[] {-1, 4, Integer.MIN_VALUE, Integer.MAX_VALUE}) {
            Halls.throwsAndChangesNothing("toggleLock(" + player + ")", IndexOutOfBoundsException.class,
                Gladehall::new, hall -> hall.toggleLock(player));
        }
    }

    // Promise 5

    private static void levelsAreBought() {
        Gladehall hall = Halls.rich();
        for (int level = 2; level <= 5; level++) {
            Checks.due("buyLevel", hall.buyLevel(3), level);
            Checks.due("gold behind it", hall.gold(3), 100 - 4 * (level - 1));
        }
        Checks.due("gold of another", hall.gold(2), 100);
        Checks.due("level of another", hall.buyLevel(2), 2);
        Gladehall poor = new Gladehall();
        poor.buyLevel(0);
        poor.roll(0);
        poor.roll(0);
        Checks.due("a level for the last 4 gold", poor.buyLevel(0) + " " + poor.gold(0), "3 0");
    }

    private static Gladehall threeGold() {
        Gladehall hall = new Gladehall();
        hall.buyLevel(0);
        hall.roll(0);
        hall.roll(0);
        hall.roll(0);
        Checks.due("three gold", hall.gold(0), 3);
        return hall;
    }

    private static void levelRefuses() {
        for (int player : new int[] {-1, 4, Integer.MIN_VALUE, Integer.MAX_VALUE}) {
            Halls.throwsAndChangesNothing("buyLevel(" + player + ")", IndexOutOfBoundsException.class,
                ShopsTest::threeGold, hall -> hall.buyLevel(player));
        }
        Halls.throwsAndChangesNothing("buyLevel for 3 gold", IllegalStateException.class,
            ShopsTest::threeGold, hall -> hall.buyLevel(0));
        Halls.throwsAndChangesNothing("buyLevel behind level 5", IllegalStateException.class,
            Halls::grown, hall -> hall.buyLevel(1));
    }

    // Promise 17

    private static Gladehall offering() {
        Gladehall hall = new Gladehall();
        hall.tell(53);
        hall.tell(20);
        hall.tell(1);
        hall.roll(0);
        return hall;
    }

    private static void shopAtRefuses() {
        Gladehall offering = offering();
        Checks.due("shopAt", Halls.shop(offering, 0), "5 2 0");
        offering.buy(0, 1);
        Checks.due("shopAt behind a buy", Halls.shop(offering, 0), "5 -1 0");
        for (int bad : new int[] {-1, Integer.MIN_VALUE, Integer.MAX_VALUE}) {
            Halls.throwsAndChangesNothing("shopAt(" + bad + ", 0)", IndexOutOfBoundsException.class,
                ShopsTest::offering, hall -> hall.shopAt(bad, 0));
            Halls.throwsAndChangesNothing("shopAt(0, " + bad + ")", IndexOutOfBoundsException.class,
                ShopsTest::offering, hall -> hall.shopAt(0, bad));
        }
        Checks.throwsDue("shopAt(4, 0)", IndexOutOfBoundsException.class, () -> offering.shopAt(4, 0));
        Checks.throwsDue("shopAt(0, 3)", IndexOutOfBoundsException.class, () -> offering.shopAt(0, 3));
    }
}
