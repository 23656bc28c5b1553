/** The boundary cases of promises 12, 13 and 20: each test is one sentence of the document, told above it. */
public final class FightEdgesTest {
    private static final int[] NOBODY = {};

    private FightEdgesTest() { }

    public static void main(String[] args) {
        blowOfEachKindAndStars();
        blowCountsKinFromNoneToTwo();
        blowCountsUnlikeKindsOnce();
        blowCountsThisBoardAlone();
        emptyBoards();
        firstSideFirst();
        aliveWithOne();
        deadWithNought();
        deadWithLessThanNought();
        harmStaysWithTheStruck();
        blowsStrikeTheFirstLivingUnit();
        turnsBeginWithTheFirst();
        turnsGoRoundTheRow();
        deadOnesTakeNoTurn();
        deadOnesLeaveTheTurnsAlone();
        deadKinCounts();
        resultIsTheLivingOfBoth();
        fullBoards();
        fightsOfManyBlows();
        recordsBeginAnew();
        everyPairMayFight();
        fightsChangeNothing();
        Checks.finish();
    }

    private static int[] team(int... units) {
        return units;
    }

    private static Gladehall hallOf(int[] ones, int[] others) {
        Gladehall hall = Halls.grown();
        Halls.team(hall, 0, ones);
        Halls.team(hall, 1, others);
        return hall;
    }

    /** The fight of these boards has this result, found either way, and again. */
    private static void due(int[] ones, int[] others, int want) {
        Gladehall hall = hallOf(ones, others);
        String what = Halls.board(hall, 0) + " against " + Halls.board(hall, 1);
        for (int time = 0; time < 2; time++) {
            Checks.due("fight of " + what, hall.fight(0, 1), want);
            Checks.due("record of " + what, hall.fightByRecord(0, 1), want);
        }
    }

    // Promise 20

    /** "its blow is 2 * c * s". */
    private static void blowOfEachKindAndStars() {
        for (int kind = 0; kind < Halls.KINDS; kind++) {
            for (int stars = 1; stars <= 3; stars++) {
                Gladehall hall = Halls.grown();
                Halls.team(hall, 3, 10 * kind + stars);
                Checks.due("blow of kind " + kind + " with " + stars + " stars", hall.blow(3, 0),
                    2 * (kind / 3 + 1) * stars);
            }
        }
    }

    private static String blows(int... units) {
        Gladehall hall = Halls.grown();
        Halls.team(hall, 2, units);
        return Halls.all(hall, place -> hall.blow(2, place), units.length);
    }

    /** "and 1 more for each other unlike kind of its kin", "the kin k by 3": none, one and two of them. */
    private static void blowCountsKinFromNoneToTwo() {
        for (int kin = 0; kin < 3; kin++) {
            int low = 10 * kin + 1;
            int middle = low + 30;
            int high = low + 60;
            int stranger = 10 * ((kin + 1) % 3) + 1;
            Checks.due("no kin", blows(low, stranger), "2 2");
            Checks.due("one of a kin", blows(high, stranger, low), "7 2 3");
            Checks.due("two of a kin", blows(middle, high, low, stranger), "6 8 4 2");
        }
    }

    /** Units of a like kind, or two units of one unlike kind, count no more. */
    private static void blowCountsUnlikeKindsOnce() {
        Checks.due("like kinds", blows(1, 1), "2 2");
        Checks.due("like kinds with unlike stars", blows(2, 1), "4 2");
        Checks.due("two units of one unlike kind", blows(1, 31, 31), "3 5 5");
        Checks.due("two units each of two unlike kinds", blows(1, 31, 31, 61, 61), "4 6 6 8 8");
    }

    /** "on the same board". */
    private static void blowCountsThisBoardAlone() {
        Gladehall hall = Halls.grown();
        Halls.board(hall, 0, 0);
        Halls.buy(hall, 0, 3, 1);
        Halls.offer(hall, 0, 6);
        Halls.board(hall, 1, 3, 6);
        Checks.due("kin on the bench, in the shop and on another board", hall.blow(0, 0), 2);
        hall.toBoard(0, 0);
        Checks.due("kin that came to the board", hall.blow(0, 0), 3);
        hall.toBench(0, 1);
        Checks.due("kin that left the board", hall.blow(0, 0), 2);
    }

    // Promises 12 and 13

    /** "The fight is over as soon as a side has no living unit": ahead of the first blow. */
    private static void emptyBoards() {
        due(NOBODY, NOBODY, 0);
        due(team(1), NOBODY, 1);
        due(NOBODY, team(1), -1);
        due(team(1, 11, 21, 31, 41), NOBODY, 5);
        due(NOBODY, team(1, 11, 21, 31, 41), -5);
    }

    /** "the sides take turns, the first side first": of two alike the first one wins. */
    private static void firstSideFirst() {
        due(team(1), team(1), 1);
        due(team(11), team(1), 1);
        due(team(63), team(83), 1);
        due(team(1, 11), team(1, 11), 1);
        Gladehall hall = hallOf(team(1), team(11));
        Checks.due("the other way round", hall.fight(1, 0) + " " + hall.fightByRecord(1, 0), "1 1");
    }

    /** "with 0 or less it is dead", so with 1 it is not: it blows, and counts as living. */
    private static void aliveWithOne() {
        // 6 has 18 and takes 5, 4, 4 and 4, while its blows of 6 kill one, then two by two blows each.
        due(team(61), team(1, 31, 41), 1);
        // 6 has 18 and takes 4, 3, 5 and 5.
        due(team(61), team(31, 11, 41), 1);
    }

    /** "with 0 or less it is dead": just 0. */
    private static void deadWithNought() {
        // Three blows of 4 leave 0 of 12; were that one not dead, it would blow again, and take a fourth one.
        due(team(31), team(31, 11), 1);
        due(team(31), team(41, 1), 1);
        due(team(31), team(31, 1), -1);
    }

    private static void deadWithLessThanNought() {
        due(team(31), team(1), 1);
        due(team(83), team(1), 1);
        due(team(1), team(83), -1);
    }

    /** "takes that much health from the first living unit": what is too much harms no other. */
    private static void harmStaysWithTheStruck() {
        // Two blows of 4 are 2 more than the first one's health; with these the third blow would kill the second one.
        due(team(31), team(1, 1, 61), -2);
        due(team(31), team(11, 1, 61), -2);
    }

    /** "from the first living unit of the other side's row". */
    private static void blowsStrikeTheFirstLivingUnit() {
        due(team(31), team(1, 41), -1);
        due(team(31), team(1, 61), -1);
        due(team(1, 1), team(1, 31), -1);
        due(team(31), team(41, 21), 1);
    }

    /** "beginning with the first one". */
    private static void turnsBeginWithTheFirst() {
        due(team(31), team(1, 51), -1);
        due(team(31), team(51, 1), 1);
        due(team(1), team(1, 41), -2);
        due(team(1), team(41, 1), -2);
    }

    /** "its living units take turns in their row": behind the last one the first one again. */
    private static void turnsGoRoundTheRow() {
        // 5 and 3 leave 4 of 12, and 5 again is enough.
        due(team(31, 1), team(31), 2);
        due(team(51, 21), team(31), 2);
        due(team(1), team(11, 1), -1);
        due(team(1), team(1, 1, 41), -2);
    }

    /** A dead unit is passed over, and costs its side no blow. */
    private static void deadOnesTakeNoTurn() {
        due(team(31), team(1, 41), -1);
        due(team(31), team(21, 41), -1);
    }

    /** The turn stays with the unit next to that which blew last, though ones ahead of it have died. */
    private static void deadOnesLeaveTheTurnsAlone() {
        due(team(31), team(1, 41, 1), -2);
        due(team(31), team(11, 31, 21), -2);
    }

    /** "dead ones with it": the kin of a dead unit still blows 1 more. */
    private static void deadKinCounts() {
        // 6 strikes 3 with 7 behind the death of 0, and so kills it: 12 less 3, 2 and 7 is 0.
        due(team(31), team(1, 11, 61), -2);
        due(team(31), team(21, 11, 81), -2);
    }

    /** "the number of living units of the first side, less that of the second one". */
    private static void resultIsTheLivingOfBoth() {
        due(team(81, 71, 61), team(1), 3);
        due(team(1), team(81, 71, 61), -3);
        due(team(1, 81), team(61), 1);
    }

    private static void fullBoards() {
        due(team(83, 73, 1, 11, 21), team(31, 41, 51, 1, 11), 5);
        due(team(31, 41, 51, 1, 11), team(83, 73, 1, 11, 21), -5);
    }

    /**
     * "or behind 60 blows": no two boards that can be had come so far (a search of all of them, see NOTES.md), so all
     * that can be tested is that no fight ends earlier. These take 52 blows, the most that there are.
     */
    private static void fightsOfManyBlows() {
        due(team(73, 22, 41, 1, 1), team(82, 53, 11, 1, 11), -1);
        due(team(63, 22, 22, 21, 11), team(82, 53, 11, 1, 11), -1);
    }

    /** "laying the record of its blows, and redoing them": a fight without blows has none, though one went ahead. */
    private static void recordsBeginAnew() {
        Gladehall hall = hallOf(team(83, 73), team(31, 31));
        Halls.team(hall, 2, 1);
        Checks.due("a fight with blows", hall.fightByRecord(0, 1), 2);
        Checks.due("one without", hall.fightByRecord(3, 2), -1);
        Checks.due("one without, turned", hall.fightByRecord(2, 3), 1);
        Checks.due("one of fewer blows", hall.fightByRecord(1, 2), 2);
        hall.fight(1, 0);
        Checks.due("one without, behind a fight", hall.fightByRecord(3, 1), -2);
        hall.round();
        Checks.due("one without, behind a round", hall.fightByRecord(3, 2), -1);
    }

    private static void everyPairMayFight() {
        Gladehall hall = Halls.grown();
        Halls.board(hall, 0, 0);
        Halls.board(hall, 1, 3);
        Halls.board(hall, 3, 6, 7);
        String[] due = {"x -1 1 -2", "1 x 1 -2", "-1 -1 x -2", "2 2 2 x"};
        for (int player = 0; player < Halls.PLAYERS; player++) {
            int one = player;
            Checks.due("fights of " + one, results(one, other -> hall.fight(one, other)), due[player]);
            Checks.due("records of " + one, results(one, other -> hall.fightByRecord(one, other)), due[player]);
        }
    }

    private static String results(int player, java.util.function.Function<Integer, Integer> fight) {
        StringBuilder text = new StringBuilder();
        for (int other = 0; other < Halls.PLAYERS; other++) {
            text.append(other == 0 ? "" : " ").append(other == player ? "x" : String.valueOf(fight.apply(other)));
        }
        return text.toString();
    }

    /** "without changing anything". */
    private static void fightsChangeNothing() {
        Gladehall fought = hallOf(team(83, 11), team(31, 41));
        Gladehall spared = hallOf(team(83, 11), team(31, 41));
        for (int player = 0; player < Halls.PLAYERS; player++) {
            for (int other = 0; other < Halls.PLAYERS; other++) {
                if (player != other) {
                    fought.fight(player, other);
                    fought.fightByRecord(player, other);
                }
            }
        }
        Checks.due("the picture behind fights", Halls.picture(fought), Halls.picture(spared));
        Checks.due("the sequel behind fights", Halls.sequel(fought), Halls.sequel(spared));
        Checks.due("the picture behind the sequel", Halls.picture(fought), Halls.picture(spared));
    }
}
