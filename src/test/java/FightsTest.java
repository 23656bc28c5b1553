/** Promises 12, 13 and 20: fights, fights by their record, and blows. */
public final class FightsTest {
    private static final int[] NO_PLAYERS = {-1, 4, Integer.MIN_VALUE, Integer.MAX_VALUE};

    private FightsTest() { }

    public static void main(String[] args) {
        blowsByCostAndStars();
        blowsByKin();
        blowRefuses();
        emptyBoards();
        theFirstSideStrikesFirst();
        livingUnitsTakeTurns();
        largerFights();
        longFights();
        fightsChangeNothing();
        fightRefuses();
        Checks.finish();
    }

    // Promise 20

    private static String blows(int... units) {
        Gladehall hall = Halls.grown();
        Halls.team(hall, 2, units);
        StringBuilder text = new StringBuilder();
        for (int place = 0; place < units.length; place++) {
            text.append(place == 0 ? "" : " ").append(hall.blow(2, place));
        }
        return text.toString();
    }

    private static void blowsByCostAndStars() {
        Checks.due("one star of each cost, no kin", blows(1, 41, 81), "2 4 6");
        Checks.due("two stars of each cost, no kin", blows(12, 52, 62), "4 8 12");
        Checks.due("three stars of cost 1 and 3", blows(23, 63), "6 18");
        Checks.due("three stars of cost 2", blows(53), "12");
    }

    private static void blowsByKin() {
        Checks.due("two of a kin", blows(1, 31), "3 5");
        Checks.due("three of a kin", blows(11, 41, 71), "4 6 8");
        Checks.due("like kinds do not count", blows(21, 21, 51, 51), "3 3 5 5");
        Checks.due("like kinds with unlike stars do not count", blows(22, 21, 81), "5 3 7");
        Checks.due("kin and strangers", blows(1, 11, 32, 21, 61), "4 2 10 2 8");
        Gladehall hall = Halls.grown();
        Halls.board(hall, 0, 3, 6);
        Halls.board(hall, 1, 0);
        Halls.buy(hall, 0, 0, 1);
        Checks.due("the bench and other boards do not count", hall.blow(0, 0) + " " + hall.blow(1, 0), "5 2");
        hall.toBench(0, 1);
        Checks.due("kin that left the board does not count", hall.blow(0, 0), 4);
    }

    private static Gladehall twoOnTheBoard() {
        Gladehall hall = Halls.rich();
        Halls.levels(hall, 1, 2);
        Halls.board(hall, 1, 0, 3);
        Halls.buy(hall, 1, 6, 1);
        return hall;
    }

    private static void blowRefuses() {
        for (int player : NO_PLAYERS) {
            Halls.throwsAndChangesNothing("blow(" + player + ", 0)", IndexOutOfBoundsException.class,
                FightsTest::twoOnTheBoard, hall -> hall.blow(player, 0));
        }
        for (int place : new int[] {-1, 2, 4, 5, Integer.MIN_VALUE, Integer.MAX_VALUE}) {
            Halls.throwsAndChangesNothing("blow(1, " + place + ")", IndexOutOfBoundsException.class,
                FightsTest::twoOnTheBoard, hall -> hall.blow(1, place));
        }
    }

    // Promises 12 and 13

    private static int[] team(int... units) {
        return units;
    }

    /** Fights these boards both ways round, as two players, and by the record too. */
    private static void fightDue(int[] ones, int[] others, int want, int wantTurned) {
        Gladehall hall = Halls.grown();
        Halls.team(hall, 3, ones);
        Halls.team(hall, 1, others);
        String what = Halls.board(hall, 3) + " against " + Halls.board(hall, 1);
        Checks.due("fight of " + what, hall.fight(3, 1), want);
        Checks.due("record of " + what, hall.fightByRecord(3, 1), want);
        Checks.due("turned fight of " + what, hall.fight(1, 3), wantTurned);
        Checks.due("turned record of " + what, hall.fightByRecord(1, 3), wantTurned);
        Checks.due("fight again of " + what, hall.fight(3, 1), want);
    }

    private static void emptyBoards() {
        fightDue(team(), team(), 0, 0);
        fightDue(team(1), team(), 1, -1);
        fightDue(team(), team(1, 1, 31), -3, 3);
        fightDue(team(61, 51, 41, 31, 21), team(), 5, -5);
    }

    private static void theFirstSideStrikesFirst() {
        fightDue(team(1), team(11), 1, 1);
        fightDue(team(81), team(61), 1, 1);
        fightDue(team(42), team(52), 1, 1);
    }

    private static void livingUnitsTakeTurns() {
        // 0 takes 2 of the 18 and dies, 7 takes 6 three times and is struck twice.
        fightDue(team(1, 71), team(81), 1, -1);
        fightDue(team(1, 31), team(1, 1), 1, -1);
        fightDue(team(83), team(81, 71, 61), 1, -1);
    }

    private static void largerFights() {
        // Each result was found by a program apart, too; the first one is another with any part of a fight changed.
        fightDue(team(61, 51, 41, 61, 31), team(31, 62, 1), -1, 2);
        fightDue(team(11, 72, 31, 81, 11), team(51, 21, 72, 51), 1, 1);
        fightDue(team(11, 22, 32, 42, 11), team(82, 71), 1, -1);
        fightDue(team(51, 42, 21, 11, 71), team(61, 32, 21, 41, 61), 1, 1);
        fightDue(team(31, 1, 51, 31, 1), team(82, 11, 61, 51), -3, 4);
        fightDue(team(61, 81, 22, 81, 31), team(71, 31, 41, 31, 41), 3, -2);
        fightDue(team(42, 1, 1, 32), team(82, 41, 61, 41), 1, 1);
    }

    private static void longFights() {
        // 52 blows each, the most that a search found for boards that one pool allows; so 60 are never reached.
        fightDue(team(73, 22, 41, 1, 1), team(82, 53, 11, 1, 11), -1, 4);
        fightDue(team(63, 22, 22, 21, 11), team(82, 53, 11, 1, 11), -1, 4);
    }

    private static Gladehall twoBoards() {
        Gladehall hall = Halls.grown();
        Halls.team(hall, 0, 61, 51, 41);
        Halls.team(hall, 1, 31, 71);
        return hall;
    }

    private static void fightsChangeNothing() {
        Gladehall fought = twoBoards();
        Gladehall spared = twoBoards();
        fought.fight(0, 1);
        fought.fightByRecord(1, 0);
        fought.fight(2, 3);
        fought.fightByRecord(0, 3);
        Checks.due("the picture behind fights", Halls.picture(fought), Halls.picture(spared));
        Checks.due("the sequel behind fights", Halls.sequel(fought), Halls.sequel(spared));
    }

    private static void fightRefuses() {
        for (int player : NO_PLAYERS) {
            for (int other : new int[] {0, player}) {
                Halls.throwsAndChangesNothing("fight(" + player + ", " + other + ")",
                    IndexOutOfBoundsException.class, FightsTest::twoBoards, hall -> hall.fight(player, other));
                Halls.throwsAndChangesNothing("fight(" + other + ", " + player + ")",
                    IndexOutOfBoundsException.class, FightsTest::twoBoards, hall -> hall.fight(other, player));
                Halls.throwsAndChangesNothing("fightByRecord(" + player + ", " + other + ")",
                    IndexOutOfBoundsException.class, FightsTest::twoBoards, hall -> hall.fightByRecord(player, other));
                Halls.throwsAndChangesNothing("fightByRecord(" + other + ", " + player + ")",
                    IndexOutOfBoundsException.class, FightsTest::twoBoards, hall -> hall.fightByRecord(other, player));
            }
        }
        for (int player = 0; player < Halls.PLAYERS; player++) {
            int same = player;
            Halls.throwsAndChangesNothing("fight of " + same + " with itself", IllegalArgumentException.class,
                FightsTest::twoBoards, hall -> hall.fight(same, same));
            Halls.throwsAndChangesNothing("record of " + same + " with itself", IllegalArgumentException.class,
                FightsTest::twoBoards, hall -> hall.fightByRecord(same, same));
        }
    }
}
