/** The boundary cases of promises 10, 11 and 14 to 16: each test is one sentence of the document, told above it. */
public final class RoundEdgesTest {
    private RoundEdgesTest() { }

    public static void main(String[] args) {
        playersAtFirst();
        roundsFromNoneToTwoHundred();
        roundRefusesBehindTwoHundred();
        pairsByTheRemainder();
        pairsOfTheLastRound();
        lowerPlayerFirst();
        drawOfEmptyBoards();
        harmOfOneToFiveUnits();
        harmOfTheUnitsMore();
        noMoreHealthIsLostThanThereIs();
        roundCountsThoseWithHealth();
        roundCountsOneWithOneHealth();
        streakOfTheWinner();
        streakOfTheLoser();
        drawsEndStreaks();
        streaksOfTwoHundred();
        interestByTens();
        interestIsAtMostThree();
        streakPaysAboveOneAndBelowMinusOne();
        goldIsAtMostAHundred();
        goldOfNoneAndAHundred();
        shopsAreFilledByThePlayersNumbers();
        lockedShopsUseNoNumbers();
        allShopsAreUnlockedThen();
        numbersEndWithinARound();
        levelsCountInARound();
        shopsAreFilledOneAfterAnother();
        oneWithoutHealthGoesOn();
        Checks.finish();
    }

    private static String healths(Gladehall hall) {
        return Halls.all(hall, hall::health, Halls.PLAYERS);
    }

    private static String streaks(Gladehall hall) {
        return Halls.all(hall, hall::streak, Halls.PLAYERS);
    }

    private static String shops(Gladehall hall) {
        StringBuilder text = new StringBuilder();
        for (int player = 0; player < Halls.PLAYERS; player++) {
            text.append(player == 0 ? "" : " / ").append(Halls.shop(hall, player));
        }
        return text.toString();
    }

    private static void rounds(Gladehall hall, int count) {
        for (int i = 0; i < count; i++) {
            hall.round();
        }
    }

    /** A new hall, these players having one unit of cost 1 on the board; the number of rounds is still 0. */
    private static Gladehall fielded(int... players) {
        Gladehall hall = new Gladehall();
        for (int player : players) {
            Halls.field(hall, player);
        }
        return hall;
    }

    // Promises 1, 14, 15 and 16

    /** "gold, 10 at first .. health, 20 at first, a streak, 0 at first", "Begins with the round 0". */
    private static void playersAtFirst() {
        Gladehall hall = new Gladehall();
        Checks.due("gold at first", Halls.all(hall, hall::gold, Halls.PLAYERS), "10 10 10 10");
        Checks.due("health at first", healths(hall), "20 20 20 20");
        Checks.due("streaks at first", streaks(hall), "0 0 0 0");
        Checks.due("rounds at first", hall.rounds(), 0);
    }

    // Promises 10 and 11

    private static void roundsFromNoneToTwoHundred() {
        Gladehall hall = new Gladehall();
        rounds(hall, 199);
        Checks.due("199 rounds", hall.rounds(), 199);
        Checks.due("the last round", hall.round(), 4);
        Checks.due("200 rounds", hall.rounds(), 200);
    }

    private static Gladehall ended() {
        Gladehall hall = fielded(1, 2);
        rounds(hall, 200);
        hall.toggleLock(3);
        hall.tell(40);
        return hall;
    }

    /** "Throws IllegalStateException if 200 were played". */
    private static void roundRefusesBehindTwoHundred() {
        Halls.throwsAndChangesNothing("a round behind 200", IllegalStateException.class,
            RoundEdgesTest::ended, Gladehall::round);
        Gladehall hall = ended();
        hall.tell(53);
        hall.roll(3);
        // Nine units of kind 0 and two of kind 1 are out: 40 of 43, 53 by 42 leaves 11, and the first of 41.
        Checks.due("other calls go on", Halls.shop(hall, 3), "5 2 1");
    }

    /** "the pairs are 0 and 1, 2 and 3, if its number by 3 (the remainder) is 0 ..": three rounds, and round again. */
    private static void pairsByTheRemainder() {
        int[][] partners = {{1, 2, 3}, {0, 3, 2}, {3, 0, 1}, {2, 1, 0}};
        for (int player = 0; player < Halls.PLAYERS; player++) {
            for (int number = 0; number < 8; number++) {
                Gladehall hall = new Gladehall();
                rounds(hall, number);
                Halls.field(hall, player);
                hall.round();
                for (int other = 0; other < Halls.PLAYERS; other++) {
                    int due = other == partners[player][number % 3] ? 18 : 20;
                    Checks.due("health of " + other + " if " + player + " wins round " + number,
                        hall.health(other), due);
                }
            }
        }
    }

    private static void pairsOfTheLastRound() {
        Gladehall hall = new Gladehall();
        rounds(hall, 199);
        Halls.field(hall, 2);
        hall.round();
        Checks.due("199 by 3 leaves 1: 0 and 2", healths(hall), "18 20 20 20");
    }

    /** "Both players of a pair fight, the lower one first." */
    private static void lowerPlayerFirst() {
        String[] due = {"1 -1 1 -1", "1 1 -1 -1", "1 1 -1 -1"};
        for (int number = 0; number < 3; number++) {
            Gladehall hall = new Gladehall();
            rounds(hall, number);
            for (int player = 0; player < Halls.PLAYERS; player++) {
                Halls.field(hall, player);
            }
            hall.round();
            Checks.due("streaks behind round " + number, streaks(hall), due[number]);
        }
    }

    /** "with a result of 0 both become 0", and nobody loses health. */
    private static void drawOfEmptyBoards() {
        Gladehall hall = new Gladehall();
        rounds(hall, 3);
        Checks.due("healths", healths(hall), "20 20 20 20");
        Checks.due("streaks", streaks(hall), "0 0 0 0");
    }

    /** "1 health more than the living units of the winner are more than its own". */
    private static void harmOfOneToFiveUnits() {
        int[] kinds = {0, 1, 2, 3, 4};
        for (int count = 1; count <= 5; count++) {
            int[] some = java.util.Arrays.copyOf(kinds, count);
            Gladehall lower = Halls.grown();
            Halls.board(lower, 0, some);
            lower.round();
            Checks.due(count + " units of the lower one", healths(lower), "20 20 20 " + (19 - count));
            Gladehall higher = Halls.grown();
            Halls.board(higher, 3, some);
            higher.round();
            Checks.due(count + " units of the other one", healths(higher), 19 - count + " 20 20 20");
        }
    }

    /** The units of the winner that died do not count. */
    private static void harmOfTheUnitsMore() {
        Gladehall hall = Halls.grown();
        Halls.board(hall, 0, 3);
        Halls.board(hall, 3, 0, 1, 6);
        Checks.due("two of three live", hall.fight(0, 3), -2);
        hall.round();
        Checks.due("healths", healths(hall), "17 20 20 20");
    }

    /** Player 0 has so much health, 1 to 19 and odd, or 0; 1, 2 and 3 have a unit each, and 0 has none. */
    private static Gladehall beatenDownTo(int health) {
        Gladehall hall = new Gladehall();
        for (int player = 1; player < Halls.PLAYERS; player++) {
            hall.buyLevel(player);
            Halls.board(hall, player, 0, 1);
        }
        hall.round();
        Checks.due("two units take 3", hall.health(0), 17);
        for (int player = 1; player < Halls.PLAYERS; player++) {
            hall.toBench(player, 1);
        }
        for (int i = 0; i < 20 && hall.health(0) > health; i++) {
            hall.round();
        }
        Checks.due("beaten down", hall.health(0), health);
        return hall;
    }

    /** "but not more than it has": 2 of 3, 2 of 1, 2 of 0, and 2 of 2. */
    private static void noMoreHealthIsLostThanThereIs() {
        Gladehall three = beatenDownTo(3);
        three.round();
        Checks.due("2 of 3", three.health(0), 1);
        Gladehall one = beatenDownTo(1);
        one.round();
        Checks.due("2 of 1", one.health(0), 0);
        one.round();
        Checks.due("2 of 0", one.health(0), 0);
        Gladehall two = fielded(1, 2, 3);
        rounds(two, 9);
        Checks.due("nine times 2 of 20", two.health(0), 2);
        two.round();
        Checks.due("2 of 2", two.health(0), 0);
        Gladehall six = fielded(1, 2, 3);
        rounds(six, 9);
        for (int player = 1; player < Halls.PLAYERS; player++) {
            Halls.levels(six, player, 4);
            Halls.board(six, player, 3, 4, 5, 3);
        }
        six.round();
        Checks.due("6 of 2", six.health(0), 0);
    }

    /** "Returns how many players have health then": 4, 3, 2, 1 and 0. */
    private static void roundCountsThoseWithHealth() {
        Gladehall hall = Halls.grown();
        Halls.board(hall, 3, 3, 4, 5, 6, 7);
        StringBuilder text = new StringBuilder();
        for (int i = 0; i < 12; i++) {
            text.append(hall.round()).append(' ');
        }
        Checks.due("6 health lost by 0, 2 and 1 in turn", text.toString(), "4 4 4 4 4 4 4 4 4 3 2 1 ");
        Checks.due("healths", healths(hall), "0 0 0 20");
        for (int place = 0; place < 5; place++) {
            hall.toBench(3, 0);
        }
        for (int player = 0; player < 3; player++) {
            Halls.board(hall, player, 0);
        }
        text.setLength(0);
        for (int i = 0; i < 11; i++) {
            text.append(hall.round()).append(' ');
        }
        Checks.due("2 health lost by 3 each time", text.toString(), "1 1 1 1 1 1 1 1 1 0 0 ");
        Checks.due("healths then", healths(hall), "0 0 0 0");
    }

    private static void roundCountsOneWithOneHealth() {
        Gladehall hall = beatenDownTo(3);
        Checks.due("a round that leaves 1", hall.round() + ", " + hall.health(0), "4, 1");
        Checks.due("a round that leaves 0", hall.round() + ", " + hall.health(0), "3, 0");
    }

    // Promise 16

    /** "The streak of the winner becomes 1 more, if it is above 0, otherwise 1". */
    private static void streakOfTheWinner() {
        Gladehall above = fielded(0);
        for (int due = 1; due <= 3; due++) {
            above.round();
            Checks.due("a winner's streak", above.streak(0), due);
        }
        for (int losses = 1; losses <= 3; losses++) {
            Gladehall below = fielded(1, 2, 3);
            rounds(below, losses);
            Checks.due("a streak below 0", below.streak(0), -losses);
            Halls.field(below, 0);
            below.round();
            Checks.due("a win with a streak of " + -losses, below.streak(0), 1);
        }
    }

    /** "that of the loser 1 less, if it is below 0, otherwise -1". */
    private static void streakOfTheLoser() {
        Gladehall below = fielded(1, 2, 3);
        for (int due = -1; due >= -3; due--) {
            below.round();
            Checks.due("a loser's streak", below.streak(0), due);
        }
        for (int wins = 1; wins <= 3; wins++) {
            Gladehall above = fielded(0, 1, 2, 3);
            rounds(above, wins);
            Checks.due("a streak above 0", above.streak(0), wins);
            above.toBench(0, 0);
            above.round();
            Checks.due("a loss with a streak of " + wins, above.streak(0), -1);
        }
    }

    /** "with a result of 0 both become 0": streaks above and below 0. */
    private static void drawsEndStreaks() {
        for (int count = 1; count <= 3; count++) {
            Gladehall winner = fielded(0);
            rounds(winner, count);
            winner.toBench(0, 0);
            Checks.due("a streak ahead", winner.streak(0), count);
            winner.round();
            Checks.due("a draw behind wins", streaks(winner), "0 0 0 0");
            Gladehall loser = fielded(1, 2, 3);
            rounds(loser, count);
            for (int player = 1; player < Halls.PLAYERS; player++) {
                loser.toBench(player, 0);
            }
            Checks.due("a streak ahead", loser.streak(0), -count);
            loser.round();
            Checks.due("a draw behind losses", streaks(loser), "0 0 0 0");
        }
    }

    private static void streaksOfTwoHundred() {
        Gladehall wins = fielded(0);
        rounds(wins, 200);
        Checks.due("200 wins", wins.streak(0) + " " + wins.health(0), "200 20");
        Gladehall losses = fielded(0, 1, 2);
        rounds(losses, 200);
        Checks.due("200 losses, most of them without health", losses.streak(3) + " " + losses.health(3), "-200 0");
    }

    // Promise 14

    private static int goldBehindARound(int gold) {
        Gladehall hall = Halls.withGold(3, gold);
        hall.round();
        return hall.gold(3);
    }

    /** "3 gold, 1 for each 10 gold that it has". */
    private static void interestByTens() {
        int[][] dues = {{0, 3}, {1, 4}, {6, 9}, {7, 10}, {9, 12}, {10, 14}, {19, 23}, {20, 25}, {29, 34}, {30, 36}};
        for (int[] due : dues) {
            Checks.due("gold behind a round with " + due[0], goldBehindARound(due[0]), due[1]);
        }
    }

    /** "at most 3". */
    private static void interestIsAtMostThree() {
        int[][] dues = {{31, 37}, {39, 45}, {40, 46}, {49, 55}, {50, 56}, {59, 65}, {89, 95}, {90, 96}, {93, 99}};
        for (int[] due : dues) {
            Checks.due("gold behind a round with " + due[0], goldBehindARound(due[0]), due[1]);
        }
    }

    /** Player 3 has so much gold; with the next round its streak becomes this one, -3 to 3. */
    private static Gladehall ahead(int streak, int gold) {
        Gladehall hall = Halls.rich();
        if (streak > 0) {
            Halls.field(hall, 3);
        }
        for (int player = 0; player < 3 && streak < 0; player++) {
            Halls.field(hall, player);
        }
        rounds(hall, streak == 0 ? 1 : Math.abs(streak) - 1);
        Halls.spendDownTo(hall, 3, gold);
        return hall;
    }

    /** "and 1 if its streak is above 1 or below -1": as the fights of this round leave it. */
    private static void streakPaysAboveOneAndBelowMinusOne() {
        for (int streak = -3; streak <= 3; streak++) {
            Gladehall hall = ahead(streak, 90);
            hall.round();
            Checks.due("the streak", hall.streak(3), streak);
            Checks.due("gold with a streak of " + streak, hall.gold(3), streak < -1 || streak > 1 ? 97 : 96);
        }
        Gladehall ended = ahead(3, 90);
        ended.toBench(3, 0);
        ended.round();
        Checks.due("gold with a streak that a draw ended", ended.streak(3) + " " + ended.gold(3), "0 96");
    }

    /** "but at most 100 gold in all". */
    private static void goldIsAtMostAHundred() {
        int[][] dues = {{93, 99, 100}, {94, 100, 100}, {95, 100, 100}, {92, 98, 99}, {98, 100, 100}};
        for (int[] due : dues) {
            Checks.due("gold behind a round with " + due[0], goldBehindARound(due[0]), due[1]);
            Gladehall hall = ahead(2, due[0]);
            hall.round();
            Checks.due("and with a streak of 2", hall.gold(3), due[2]);
        }
        Checks.due("gold behind a round with 99", goldBehindARound(99), 100);
        Checks.due("gold behind a round with 100", goldBehindARound(100), 100);
    }

    private static void goldOfNoneAndAHundred() {
        for (int player = 0; player < Halls.PLAYERS; player++) {
            Checks.due("no gold", Halls.withGold(player, 0).gold(player), 0);
            Checks.due("all gold", Halls.withGold(player, 100).gold(player), 100);
        }
    }

    // Shops behind a round

    private static Gladehall told(int... numbers) {
        Gladehall hall = new Gladehall();
        for (int number : numbers) {
            hall.tell(number);
        }
        return hall;
    }

    /** "Then each shop that is not locked is filled, by the players' numbers". */
    private static void shopsAreFilledByThePlayersNumbers() {
        Gladehall hall = told(0, 0, 0, 10, 10, 10, 12, 12, 12, 30, 30, 30);
        hall.round();
        // The third player's row: six each of kinds 0 and 1, 9 of kind 2; the fourth one's: six each of 0, 1 and 2.
        Checks.due("the shops", shops(hall), "0 0 0 / 1 1 1 / 2 2 2 / 4 4 4");
        Checks.due("twelve numbers are used up", hall.tell(0), 1);
    }

    private static void lockedShopsUseNoNumbers() {
        Gladehall hall = told(9, 9, 9, 53, 53, 53);
        hall.toggleLock(0);
        hall.toggleLock(2);
        hall.round();
        Checks.due("the shops", shops(hall), "-1 -1 -1 / 1 1 1 / -1 -1 -1 / 0 0 0");
        Gladehall all = told(9, 9, 9);
        Halls.roundOfLockedShops(all);
        Checks.due("all shops locked", shops(all), "-1 -1 -1 / -1 -1 -1 / -1 -1 -1 / -1 -1 -1");
        Checks.due("all numbers are left", all.tell(0), 4);
    }

    /** "all shops are not locked then". */
    private static void allShopsAreUnlockedThen() {
        Gladehall hall = new Gladehall();
        Halls.roundOfLockedShops(hall);
        for (int player = 0; player < Halls.PLAYERS; player++) {
            Checks.due("toggle behind a round of locked shops", hall.toggleLock(player), true);
            hall.toggleLock(player);
        }
        hall.round();
        Checks.due("filled by the next round", shops(hall), "0 0 0 / 0 0 0 / 0 0 0 / 1 1 1");
    }

    /** "if none is left, it is 0": from the middle of a player's shop on. */
    private static void numbersEndWithinARound() {
        Gladehall hall = told(9, 9, 9, 49);
        hall.round();
        Checks.due("four numbers", shops(hall), "1 1 1 / 5 0 0 / 0 0 0 / 0 0 0");
        Checks.due("none is left", hall.tell(0), 1);
    }

    /** "whose cost is at most the level and 1": each player's own level. */
    private static void levelsCountInARound() {
        Gladehall hall = told(53, 52, 51, 77, 76, 75);
        hall.buyLevel(1);
        hall.round();
        Checks.due("level 1, then level 2", shops(hall), "5 5 5 / 8 8 8 / 0 0 0 / 0 0 0");
    }

    /** "the units in it go back to the pool; then ..": at each shop's own filling. */
    private static void shopsAreFilledOneAfterAnother() {
        Gladehall hall = told(53, 52, 51);
        hall.roll(0);
        hall.tell(53);
        hall.tell(52);
        hall.tell(51);
        hall.tell(50);
        hall.round();
        Checks.due("the first shop's units may come back to it, the next gets none", shops(hall),
            "5 5 5 / 5 0 0 / 0 0 0 / 0 0 0");
        Gladehall later = told(53, 52, 51);
        later.roll(1);
        later.tell(51);
        later.tell(0);
        later.tell(0);
        later.tell(51);
        later.round();
        Checks.due("51 by 51 at the first shop, 51 by 51 at the second", shops(later),
            "0 0 0 / 0 0 0 / 0 0 0 / 1 1 1");
    }

    /** No sentence ends the game of a player without health: it fights, is paid, and its shop is filled. */
    private static void oneWithoutHealthGoesOn() {
        Gladehall hall = beatenDownTo(1);
        hall.round();
        Checks.due("no health", hall.health(0), 0);
        Halls.spendDownTo(hall, 0, 10);
        Halls.field(hall, 0);
        int streak = hall.streak(0);
        hall.round();
        Checks.due("it wins", streak < 0 && hall.streak(0) == 1, true);
        Checks.due("its gold", hall.gold(0), 11);
        Checks.due("its health", hall.health(0), 0);
        Checks.due("its shop", hall.shopAt(0, 2) != Gladehall.NONE, true);
    }
}
