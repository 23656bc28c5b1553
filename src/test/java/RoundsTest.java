import java.util.function.BiFunction;

/** Promises 10, 11 and 14 to 16: rounds, health, streaks and income. */
public final class RoundsTest {
    private static final int[] NO_PLAYERS = {-1, 4, Integer.MIN_VALUE, Integer.MAX_VALUE};

    private RoundsTest() { }

    public static void main(String[] args) {
        roundsAreCounted();
        roundRefuses();
        pairsTakeTurns();
        theLowerPlayerStrikesFirst();
        harmIsOneMoreThanTheResult();
        streaksTurn();
        streaksEndWithADraw();
        healthEnds();
        incomeByGold();
        incomeByStreak();
        incomeUpToAHundred();
        shopsAreFilledInTheirOrder();
        unitsGoBackAtTheirOwnFilling();
        questionsRefuse();
        Checks.finish();
    }

    private static String ofAll(BiFunction<Gladehall, Integer, Integer> question, Gladehall hall) {
        return Halls.all(hall, player -> question.apply(hall, player), Halls.PLAYERS);
    }

    private static String golds(Gladehall hall) {
        return ofAll(Gladehall::gold, hall);
    }

    private static String healths(Gladehall hall) {
        return ofAll(Gladehall::health, hall);
    }

    private static String streaks(Gladehall hall) {
        return ofAll(Gladehall::streak, hall);
    }

    // Promises 10 and 11

    private static void roundsAreCounted() {
        Gladehall hall = new Gladehall();
        Checks.due("no round", hall.rounds(), 0);
        for (int i = 1; i <= 200; i++) {
            Checks.due("round " + i, hall.round(), 4);
            Checks.due("rounds", hall.rounds(), i);
        }
        Checks.throwsDue("round behind 200", IllegalStateException.class, hall::round);
        Checks.due("rounds behind 200", hall.rounds(), 200);
    }

    private static Gladehall ended() {
        Gladehall hall = new Gladehall();
        Halls.field(hall, 2);
        for (int i = 0; i < 200; i++) {
            hall.round();
        }
        hall.toggleLock(1);
        hall.roll(1);
        return hall;
    }

    private static void roundRefuses() {
        Halls.throwsAndChangesNothing("round behind 200", IllegalStateException.class,
            RoundsTest::ended, Gladehall::round);
    }

    private static void pairsTakeTurns() {
        String[][] losers = {
            {"20 18 20 20", "20 18 18 20", "20 18 18 18", "20 16 18 18", "20 16 16 18"},
            {"18 20 20 20", "18 20 20 18", "18 20 18 18", "16 20 18 18", "16 20 18 16"},
            {"20 20 20 18", "18 20 20 18", "18 18 20 18", "18 18 20 16", "16 18 20 16"},
            {"20 20 18 20", "20 18 18 20", "18 18 18 20", "18 18 16 20", "18 16 16 20"},
        };
        for (int player = 0; player < Halls.PLAYERS; player++) {
            Gladehall hall = new Gladehall();
            Halls.field(hall, player);
            for (int i = 0; i < 5; i++) {
                hall.round();
                Checks.due("healths behind round " + i + " with units of " + player, healths(hall), losers[player][i]);
            }
        }
    }

    private static void theLowerPlayerStrikesFirst() {
        Gladehall hall = new Gladehall();
        for (int player = 0; player < Halls.PLAYERS; player++) {
            Halls.field(hall, player);
        }
        hall.round();
        Checks.due("the lower one wins", healths(hall) + " / " + streaks(hall), "20 18 20 18 / 1 -1 1 -1");
        hall.round();
        Checks.due("0 and 1 win", healths(hall) + " / " + streaks(hall), "20 18 18 16 / 2 1 -1 -2");
        hall.round();
        Checks.due("0 and 1 win again", healths(hall) + " / " + streaks(hall), "20 18 16 14 / 3 2 -2 -3");
    }

    private static void harmIsOneMoreThanTheResult() {
        Gladehall hall = Halls.grown();
        Halls.board(hall, 1, 3, 4, 5, 6, 7);
        Halls.board(hall, 2, 2, 2);
        Halls.board(hall, 3, 8);
        // 17 rounds were played, so the next pairs are 0 and 3, 1 and 2.
        int ones = hall.fight(1, 2);
        Halls.roundOfLockedShops(hall);
        Checks.due("1 keeps all five", ones, 5);
        Checks.due("healths", healths(hall), "18 20 14 20");
        Halls.roundOfLockedShops(hall);
        Checks.due("healths then", healths(hall), "12 20 12 20");
    }

    // Promises 15 and 16

    private static void streaksTurn() {
        Gladehall hall = new Gladehall();
        Halls.field(hall, 0);
        Halls.field(hall, 1);
        hall.round();
        hall.round();
        hall.round();
        Checks.due("0 beat 1, 2 and 3, 1 beat 3 and 2", streaks(hall), "3 2 -2 -2");
        hall.toBench(0, 0);
        hall.round();
        Checks.due("0 is beaten by 1 now", streaks(hall), "-1 3 0 0");
        hall.toBoard(0, 0);
        hall.toBench(1, 0);
        hall.round();
        Checks.due("0 beats 2", streaks(hall), "1 0 -1 0");
        hall.round();
        Checks.due("0 beats 3", streaks(hall), "2 0 0 -1");
        hall.round();
        Checks.due("0 beats 1", streaks(hall), "3 -1 0 0");
    }

    private static void streaksEndWithADraw() {
        Gladehall hall = new Gladehall();
        Halls.field(hall, 0);
        hall.round();
        Checks.due("a win and a loss", streaks(hall), "1 -1 0 0");
        hall.toBench(0, 0);
        hall.round();
        Checks.due("draws", streaks(hall), "0 0 0 0");
        Checks.due("no harm", healths(hall), "20 18 20 20");
    }

    private static void healthEnds() {
        Gladehall hall = Halls.grown();
        Halls.board(hall, 1, 3, 4);
        Halls.board(hall, 2, 3, 4);
        Halls.board(hall, 3, 3, 4);
        int before = hall.health(0);
        Checks.due("health ahead", before, 20);
        for (int i = 1; i <= 6; i++) {
            hall.round();
            Checks.due("health behind " + i, hall.health(0), 20 - 3 * i);
        }
        Checks.due("three have health", hall.round(), 3);
        Checks.due("no more health is lost than there is", hall.health(0), 0);
        Checks.due("one without health plays on", hall.round(), 3);
        Checks.due("its health and streak", hall.health(0) + " " + hall.streak(0), "0 -8");
        Checks.due("its gold", hall.gold(0), 100);
        Checks.due("its shop is filled", hall.shopAt(0, 0) != Gladehall.NONE, true);
        Checks.due("its level can be bought no more than another's",
            Checks.outcome(() -> hall.buyLevel(0)), "throws.IllegalStateException");
        Halls.offer(hall, 0, 8);
        hall.buy(0, 0);
        hall.toBoard(0, 0);
        Checks.due("it moves units", hall.boardAt(0, 0), 81);
    }

    // Promise 14

    private static void incomeByGold() {
        int[] due = {10, 14, 18, 22, 27, 32, 38, 44, 50, 56, 62, 68, 74, 80, 86, 92, 98, 100, 100};
        Gladehall hall = new Gladehall();
        for (int i = 0; i < due.length; i++) {
            Checks.due("gold behind " + i + " rounds", hall.gold(2), due[i]);
            hall.round();
        }
        for (int spent = 0; spent <= 10; spent++) {
            Gladehall poorer = new Gladehall();
            for (int i = 0; i < spent; i++) {
                poorer.roll(1);
            }
            poorer.round();
            Checks.due("gold of " + (10 - spent), poorer.gold(1), 10 - spent + (spent == 0 ? 4 : 3));
        }
        for (int gold = 19; gold <= 31; gold++) {
            incomeOf(gold, gold + 3 + gold / 10);
        }
        for (int gold = 39; gold <= 41; gold++) {
            incomeOf(gold, gold + 6);
        }
    }

    private static void incomeOf(int gold, int due) {
        Gladehall hall = new Gladehall();
        for (int i = 0; i < 20 && hall.gold(3) < gold; i++) {
            hall.round();
        }
        for (int i = 0; i < 10 && hall.gold(3) > gold; i++) {
            hall.roll(3);
        }
        Checks.due("gold ahead", hall.gold(3), gold);
        hall.round();
        Checks.due("gold of " + gold, hall.gold(3), due);
    }

    private static void incomeByStreak() {
        Gladehall hall = new Gladehall();
        for (int player = 0; player < 2; player++) {
            Halls.field(hall, player);
        }
        hall.round();
        Checks.due("streaks 1, -1, 0, 0", golds(hall), "11 11 14 14");
        hall.round();
        Checks.due("streaks 2, 1, -1, -1", golds(hall), "16 15 18 18");
        hall.round();
        Checks.due("streaks 3, 2, -2, -2", streaks(hall), "3 2 -2 -2");
        Checks.due("1 more for each", golds(hall), "21 20 23 23");
    }

    private static void incomeUpToAHundred() {
        Gladehall hall = Halls.rich();
        hall.roll(0);
        hall.buyLevel(1);
        hall.roll(2);
        hall.buyLevel(2);
        hall.buyLevel(2);
        hall.round();
        Checks.due("99, 96, 91 and 100 become", golds(hall), "100 100 97 100");
    }

    // Shops behind a round

    private static void shopsAreFilledInTheirOrder() {
        Gladehall hall = new Gladehall();
        hall.toggleLock(1);
        for (int number : new int[] {0, 9, 18, 26, 34, 42, 50}) {
            hall.tell(number);
        }
        hall.round();
        // 0 of 54, 9 of 53, 18 of 52; 26 of 51, 34 of 50, 42 of 49; 50 of 48, and no number any more twice.
        Checks.due("the shops", Halls.shop(hall, 0) + " / " + Halls.shop(hall, 1) + " / " + Halls.shop(hall, 2)
            + " / " + Halls.shop(hall, 3), "0 1 2 / -1 -1 -1 / 3 4 5 / 0 0 0");
        Checks.due("the numbers are used up", hall.tell(7), 1);
        Checks.due("no shop is locked then", hall.toggleLock(1), true);
        Checks.due("nor another", hall.toggleLock(0), true);
    }

    private static void unitsGoBackAtTheirOwnFilling() {
        Gladehall hall = new Gladehall();
        Halls.offer(hall, 3, 5);
        hall.tell(53);
        hall.tell(50);
        hall.round();
        // 53 by 51 leaves 2, as three units of kind 5 are in the shop of player 3 still; 50 by 50 leaves 0.
        Checks.due("the shops", Halls.shop(hall, 0) + " / " + Halls.shop(hall, 1) + " / " + Halls.shop(hall, 2)
            + " / " + Halls.shop(hall, 3), "0 0 0 / 0 0 0 / 0 0 0 / 1 1 1");
        Checks.due("the pool", Halls.all(hall, hall::pool, 9), "0 6 9 9 9 9 9 9 9");
        Gladehall second = new Gladehall();
        Halls.offer(second, 3, 5);
        second.tell(50);
        second.round();
        Checks.due("50 of 51 is still of kind 5", Halls.shop(second, 0), "5 0 0");
    }

    private static Gladehall midGame() {
        Gladehall hall = new Gladehall();
        Halls.field(hall, 1);
        hall.round();
        hall.toggleLock(1);
        hall.tell(30);
        return hall;
    }

    private static void questionsRefuse() {
        for (int player : NO_PLAYERS) {
            Halls.throwsAndChangesNothing("gold(" + player + ")", IndexOutOfBoundsException.class,
                RoundsTest::midGame, hall -> hall.gold(player));
            Halls.throwsAndChangesNothing("health(" + player + ")", IndexOutOfBoundsException.class,
                RoundsTest::midGame, hall -> hall.health(player));
            Halls.throwsAndChangesNothing("streak(" + player + ")", IndexOutOfBoundsException.class,
                RoundsTest::midGame, hall -> hall.streak(player));
        }
    }
}
