import java.util.NoSuchElementException;

/** An automatic battler for four players over one shared pool of units. */
public final class Gladehall {
    /** There is none. */
    public static final int NONE = -1;

    private static final int PLAYERS = 4;
    private static final int KINDS = 9;
    private static final int KINS = 3;
    private static final int KINDS_OF_A_COST = 3;
    private static final int UNITS_OF_A_KIND = 9;
    private static final int MOST_STARS = 3;

    private static final int SLOTS = 3;
    private static final int BENCH_PLACES = 6;
    private static final int BOARD_PLACES = 5;

    private static final int HIGHEST_NUMBER = 1000;
    private static final int MOST_NUMBERS = 100;

    private static final int FIRST_GOLD = 10;
    private static final int MOST_GOLD = 100;
    private static final int ROLL_PRICE = 1;
    private static final int LEVEL_PRICE = 4;
    private static final int HIGHEST_LEVEL = 5;

    private static final int FIRST_HEALTH = 20;
    private static final int ROUND_GOLD = 3;
    private static final int GOLD_FOR_INTEREST = 10;
    private static final int MOST_INTEREST = 3;

    private static final int MOST_BLOWS = 60;
    private static final int MOST_ROUNDS = 200;
    private static final int PAIRINGS = 3;
    /** For each pairing its two pairs, the lower player of a pair first. */
    private static final int[] PAIRS = {
        0, 1, 2, 3,
        0, 2, 1, 3,
        0, 3, 1, 2,
    };

    private final Player[] players = new Player[PLAYERS];
    private final Pool stock = new Pool();
    private final Numbers numbers = new Numbers();
    private final Battle battle = new Battle();
    private int roundsPlayed;

    public Gladehall() {
        for (int player = 0; player < PLAYERS; player++) {
            players[player] = new Player();
        }
    }

    // ---- numbers, shops, levels

    public int tell(int number) throws IllegalArgumentException, IllegalStateException {
        if (number < 0 || number > HIGHEST_NUMBER) {
            throw new IllegalArgumentException("the number is not from 0 to 1000");
        }
        if (!numbers.append(number)) {
            throw new IllegalStateException("100 numbers are left");
        }
        return numbers.left;
    }

    public int roll(int player) throws IndexOutOfBoundsException, IllegalStateException {
        Player roller = playerOf(player);
        if (roller.gold < ROLL_PRICE) {
            throw new IllegalStateException("the player has no gold");
        }
        roller.gold -= ROLL_PRICE;
        fillShop(roller);
        roller.locked = false;
        return roller.gold;
    }

    public boolean toggleLock(int player) throws IndexOutOfBoundsException {
        Player keeper = playerOf(player);
        keeper.locked = !keeper.locked;
        return keeper.locked;
    }

    public int buyLevel(int player) throws IndexOutOfBoundsException, IllegalStateException {
        Player buyer = playerOf(player);
        if (buyer.gold < LEVEL_PRICE) {
            throw new IllegalStateException("the player has too little gold");
        }
        if (buyer.level >= HIGHEST_LEVEL) {
            throw new IllegalStateException("the player has the highest level");
        }
        buyer.gold -= LEVEL_PRICE;
        buyer.level++;
        return buyer.level;
    }

    // ---- units

    public int buy(int player, int slot)
            throws IndexOutOfBoundsException, java.util.NoSuchElementException, IllegalStateException {
        Player buyer = playerOf(player);
        requireSlot(slot);
        int kind = buyer.shop[slot];
        if (kind == NONE) {
            throw new NoSuchElementException("the slot is empty");
        }
        if (buyer.gold < costOf(kind)) {
            throw new IllegalStateException("the player has too little gold");
        }
        if (!buyer.bench.append(kind, 1)) {
            throw new IllegalStateException("the bench has 6 units");
        }
        buyer.shop[slot] = NONE;
        buyer.gold -= costOf(kind);
        buyer.mergeThrees();
        return buyer.gold;
    }

    public int sell(int player, int place) throws IndexOutOfBoundsException {
        Player seller = playerOf(player);
        requireUnit(seller.bench, place);
        int kind = seller.bench.kinds[place];
        int units = unitsFor(seller.bench.stars[place]);
        seller.bench.removeAt(place);
        stock.putBack(kind, units);
        seller.addGold(costOf(kind) * units);
        return seller.gold;
    }

    public int toBoard(int player, int place) throws IndexOutOfBoundsException, IllegalStateException {
        Player mover = playerOf(player);
        requireUnit(mover.bench, place);
        if (mover.board.size >= mover.level) {
            throw new IllegalStateException("the board has as many units as the level");
        }
        if (mover.board.append(mover.bench.kinds[place], mover.bench.stars[place])) {
            mover.bench.removeAt(place);
        }
        return mover.board.size;
    }

    public int toBench(int player, int place) throws IndexOutOfBoundsException, IllegalStateException {
        Player mover = playerOf(player);
        requireUnit(mover.board, place);
        if (!mover.bench.append(mover.board.kinds[place], mover.board.stars[place])) {
            throw new IllegalStateException("the bench has 6 units");
        }
        mover.board.removeAt(place);
        mover.mergeThrees();
        return mover.bench.size;
    }

    // ---- rounds and fights

    public int round() throws IllegalStateException {
        if (roundsPlayed >= MOST_ROUNDS) {
            throw new IllegalStateException("200 rounds were played");
        }
        int pairing = roundsPlayed % PAIRINGS * PLAYERS;
        for (int pair = 0; pair < PLAYERS; pair += 2) {
            fightPair(PAIRS[pairing + pair], PAIRS[pairing + pair + 1]);
        }
        for (int player = 0; player < PLAYERS; player++) {
            players[player].earn();
        }
        fillUnlockedShops();
        roundsPlayed++;
        return playersWithHealth();
    }

    public int rounds() {
        return roundsPlayed;
    }

    public int fight(int player, int other) throws IndexOutOfBoundsException, IllegalArgumentException {
        musterSides(player, other);
        battle.fightOut();
        return battle.result();
    }

    public int fightByRecord(int player, int other) throws IndexOutOfBoundsException, IllegalArgumentException {
        musterSides(player, other);
        battle.fightOut();
        // The healths begin anew, so that nothing but the record brings about the result.
        musterSides(player, other);
        battle.redo();
        return battle.result();
    }

    // ---- what there is

    public int gold(int player) throws IndexOutOfBoundsException {
        return playerOf(player).gold;
    }

    public int health(int player) throws IndexOutOfBoundsException {
        return playerOf(player).health;
    }

    public int streak(int player) throws IndexOutOfBoundsException {
        return playerOf(player).streak;
    }

    public int shopAt(int player, int slot) throws IndexOutOfBoundsException {
        Player keeper = playerOf(player);
        requireSlot(slot);
        return keeper.shop[slot];
    }

    public int benchAt(int player, int place) throws IndexOutOfBoundsException {
        Player owner = playerOf(player);
        if (place < 0 || place >= BENCH_PLACES) {
            throw new IndexOutOfBoundsException("a bench has no such place");
        }
        return owner.bench.unitAt(place);
    }

    public int boardAt(int player, int place) throws IndexOutOfBoundsException {
        Player owner = playerOf(player);
        if (place < 0 || place >= BOARD_PLACES) {
            throw new IndexOutOfBoundsException("a board has no such place");
        }
        return owner.board.unitAt(place);
    }

    public int blow(int player, int place) throws IndexOutOfBoundsException {
        Player owner = playerOf(player);
        requireUnit(owner.board, place);
        return owner.board.strengthAt(place);
    }

    public int pool(int kind) throws IndexOutOfBoundsException {
        requireKind(kind);
        return stock.units[kind];
    }

    public int out(int kind) throws IndexOutOfBoundsException {
        requireKind(kind);
        int units = 0;
        for (int player = 0; player < PLAYERS; player++) {
            units += players[player].unitsHeld(kind);
        }
        return units;
    }

    // ---- what a call is tested for

    private Player playerOf(int player) {
        if (player < 0 || player >= PLAYERS) {
            throw new IndexOutOfBoundsException("there is no such player");
        }
        return players[player];
    }

    private static void requireKind(int kind) {
        if (kind < 0 || kind >= KINDS) {
            throw new IndexOutOfBoundsException("there is no such kind");
        }
    }

    private static void requireSlot(int slot) {
        if (slot < 0 || slot >= SLOTS) {
            throw new IndexOutOfBoundsException("there is no such slot");
        }
    }

    private static void requireUnit(UnitRow row, int place) {
        if (!row.has(place)) {
            throw new IndexOutOfBoundsException("there is no unit at this place");
        }
    }

    // ---- parts of the calls

    private void musterSides(int player, int other) {
        Player first = playerOf(player);
        Player second = playerOf(other);
        if (player == other) {
            throw new IllegalArgumentException("a player does not fight itself");
        }
        battle.muster(first.board, second.board);
    }

    private void fightPair(int lower, int higher) {
        musterSides(lower, higher);
        battle.fightOut();
        int result = battle.result();
        if (result > 0) {
            players[lower].win();
            players[higher].lose(result + 1);
        } else if (result < 0) {
            players[higher].win();
            players[lower].lose(1 - result);
        } else {
            players[lower].streak = 0;
            players[higher].streak = 0;
        }
    }

    private void fillUnlockedShops() {
        for (int player = 0; player < PLAYERS; player++) {
            Player keeper = players[player];
            if (!keeper.locked) {
                fillShop(keeper);
            }
            keeper.locked = false;
        }
    }

    private void fillShop(Player keeper) {
        // An empty slot holds no kind, so nothing goes back from it.
        for (int slot = 0; slot < SLOTS; slot++) {
            stock.putBack(keeper.shop[slot], 1);
        }
        for (int slot = 0; slot < SLOTS; slot++) {
            keeper.shop[slot] = stock.draw(numbers.take(), keeper.level + 1);
        }
    }

    private int playersWithHealth() {
        int count = 0;
        for (int player = 0; player < PLAYERS; player++) {
            if (players[player].health > 0) {
                count++;
            }
        }
        return count;
    }

    private static int costOf(int kind) {
        return kind / KINDS_OF_A_COST + 1;
    }

    /** For how many units of the pool one with so many stars stands. */
    private static int unitsFor(int stars) {
        if (stars == 1) {
            return 1;
        }
        return stars == 2 ? 3 : 9;
    }

    /** The numbers that were told and are not used up, in a ring. */
    private static final class Numbers {
        private final int[] ring = new int[MOST_NUMBERS];
        private int first;
        private int left;

        private boolean append(int number) {
            if (left >= MOST_NUMBERS) {
                return false;
            }
            ring[(first + left) % MOST_NUMBERS] = number;
            left++;
            return true;
        }

        private int take() {
            if (left == 0) {
                return 0;
            }
            int number = ring[first];
            first = (first + 1) % MOST_NUMBERS;
            left--;
            return number;
        }
    }

    /** The units that nobody has, by kinds. */
    private static final class Pool {
        private final int[] units = new int[KINDS];

        private Pool() {
            for (int kind = 0; kind < KINDS; kind++) {
                units[kind] = UNITS_OF_A_KIND;
            }
        }

        private void putBack(int kind, int count) {
            if (kind >= 0 && kind < KINDS) {
                units[kind] += count;
            }
        }

        private int unitsUpTo(int highestCost) {
            int count = 0;
            for (int kind = 0; kind < KINDS; kind++) {
                if (costOf(kind) <= highestCost) {
                    count += units[kind];
                }
            }
            return count;
        }

        /** Takes the unit out at which the number points; returns its kind, NONE if there is none. */
        private int draw(int number, int highestCost) {
            int count = unitsUpTo(highestCost);
            if (count <= 0) {
                return NONE;
            }
            // A higher kind never costs less, so those that cost too much lie behind the place.
            int place = number % count;
            for (int kind = 0; kind < KINDS; kind++) {
                if (place < units[kind]) {
                    units[kind]--;
                    return kind;
                }
                place -= units[kind];
            }
            return NONE;
        }
    }

    /** A bench or a board: units in a row without gaps. */
    private static final class UnitRow {
        private final int[] kinds;
        private final int[] stars;
        private int size;

        private UnitRow(int places) {
            kinds = new int[places];
            stars = new int[places];
        }

        private boolean has(int place) {
            return place >= 0 && place < size;
        }

        private boolean append(int kind, int starsOfIt) {
            if (size >= kinds.length) {
                return false;
            }
            kinds[size] = kind;
            stars[size] = starsOfIt;
            size++;
            return true;
        }

        private void removeAt(int place) {
            if (!has(place)) {
                return;
            }
            size--;
            for (int i = place; i < size; i++) {
                kinds[i] = kinds[i + 1];
                stars[i] = stars[i + 1];
            }
        }

        private int find(int kind, int starsOfIt) {
            for (int place = 0; place < size; place++) {
                if (kinds[place] == kind && stars[place] == starsOfIt) {
                    return place;
                }
            }
            return NONE;
        }

        private int countOf(int kind, int starsOfIt) {
            int count = 0;
            for (int place = 0; place < size; place++) {
                if (kinds[place] == kind && stars[place] == starsOfIt) {
                    count++;
                }
            }
            return count;
        }

        private boolean hasKind(int kind) {
            for (int place = 0; place < size; place++) {
                if (kinds[place] == kind) {
                    return true;
                }
            }
            return false;
        }

        private int unitsHeld(int kind) {
            int units = 0;
            for (int place = 0; place < size; place++) {
                if (kinds[place] == kind) {
                    units += unitsFor(stars[place]);
                }
            }
            return units;
        }

        private int unitAt(int place) {
            return has(place) ? 10 * kinds[place] + stars[place] : NONE;
        }

        private int healthAt(int place) {
            return has(place) ? 6 * costOf(kinds[place]) * stars[place] : 0;
        }

        private int strengthAt(int place) {
            if (!has(place)) {
                return 0;
            }
            int kind = kinds[place];
            int strength = 2 * costOf(kind) * stars[place];
            for (int akin = kind % KINS; akin < KINDS; akin += KINS) {
                if (akin != kind && hasKind(akin)) {
                    strength++;
                }
            }
            return strength;
        }
    }

    private static final class Player {
        private int gold = FIRST_GOLD;
        private int level = 1;
        private int health = FIRST_HEALTH;
        /** Rounds won in a row; below 0, lost in a row. */
        private int streak;
        private boolean locked;
        private final int[] shop = new int[SLOTS];
        private final UnitRow bench = new UnitRow(BENCH_PLACES);
        private final UnitRow board = new UnitRow(BOARD_PLACES);

        private Player() {
            for (int slot = 0; slot < SLOTS; slot++) {
                shop[slot] = NONE;
            }
        }

        private void addGold(int more) {
            gold = Math.min(MOST_GOLD, gold + more);
        }

        private void earn() {
            int interest = Math.min(MOST_INTEREST, gold / GOLD_FOR_INTEREST);
            int forStreak = streak > 1 || streak < -1 ? 1 : 0;
            addGold(ROUND_GOLD + interest + forStreak);
        }

        private void win() {
            streak = streak > 0 ? streak + 1 : 1;
        }

        private void lose(int harm) {
            streak = streak < 0 ? streak - 1 : -1;
            health -= Math.min(harm, health);
        }

        private int unitsHeld(int kind) {
            int units = bench.unitsHeld(kind) + board.unitsHeld(kind);
            for (int slot = 0; slot < SLOTS; slot++) {
                if (shop[slot] == kind) {
                    units++;
                }
            }
            return units;
        }

        private void mergeThrees() {
            // Each merging takes two units away, so this bound is never what ends the loop.
            for (int i = 0; i < BENCH_PLACES + BOARD_PLACES; i++) {
                if (!mergeFirstThree()) {
                    return;
                }
            }
        }

        private boolean mergeFirstThree() {
            for (int kind = 0; kind < KINDS; kind++) {
                for (int stars = 1; stars < MOST_STARS; stars++) {
                    if (board.countOf(kind, stars) + bench.countOf(kind, stars) >= 3) {
                        mergeThree(kind, stars);
                        return true;
                    }
                }
            }
            return false;
        }

        private void mergeThree(int kind, int stars) {
            UnitRow row = rowOfFirst(kind, stars);
            int place = row.find(kind, stars);
            if (place != NONE) {
                row.stars[place]++;
            }
            for (int i = 0; i < 2; i++) {
                UnitRow from = rowOfFirst(kind, stars);
                from.removeAt(from.find(kind, stars));
            }
        }

        private UnitRow rowOfFirst(int kind, int stars) {
            return board.find(kind, stars) != NONE ? board : bench;
        }
    }

    /** One side of a fight. */
    private static final class Side {
        private final int[] healths = new int[BOARD_PLACES];
        private final int[] strengths = new int[BOARD_PLACES];
        private int size;
        private int next;

        private void muster(UnitRow board) {
            size = Math.min(board.size, BOARD_PLACES);
            next = 0;
            for (int place = 0; place < size; place++) {
                healths[place] = board.healthAt(place);
                strengths[place] = board.strengthAt(place);
            }
        }

        private int living() {
            int count = 0;
            for (int place = 0; place < size; place++) {
                if (healths[place] > 0) {
                    count++;
                }
            }
            return count;
        }

        private int firstLiving() {
            for (int place = 0; place < size; place++) {
                if (healths[place] > 0) {
                    return place;
                }
            }
            return NONE;
        }

        private void takeBlow(int place, int strength) {
            if (place >= 0 && place < size) {
                healths[place] -= strength;
            }
        }

        /** The place of the unit whose turn it is; behind it the turn goes to the one after it. */
        private int takeTurn() {
            for (int step = 0; step < size; step++) {
                int place = (next + step) % size;
                if (healths[place] > 0) {
                    next = place + 1;
                    return place;
                }
            }
            return NONE;
        }
    }

    /** A fight and the record of its blows; the first side strikes the blows with even numbers. */
    private static final class Battle {
        private final Side first = new Side();
        private final Side second = new Side();
        private final int[] struckPlaces = new int[MOST_BLOWS];
        private final int[] struckHealths = new int[MOST_BLOWS];
        private int blowsStruck;

        private void muster(UnitRow firstBoard, UnitRow secondBoard) {
            first.muster(firstBoard);
            second.muster(secondBoard);
        }

        private void fightOut() {
            blowsStruck = 0;
            for (int number = 0; number < MOST_BLOWS; number++) {
                Side striking = number % 2 == 0 ? first : second;
                Side struck = number % 2 == 0 ? second : first;
                int striker = striking.takeTurn();
                int target = struck.firstLiving();
                if (striker == NONE || target == NONE) {
                    return;
                }
                struck.takeBlow(target, striking.strengths[striker]);
                struckPlaces[number] = target;
                struckHealths[number] = striking.strengths[striker];
                blowsStruck++;
            }
        }

        private void redo() {
            for (int number = 0; number < blowsStruck; number++) {
                Side struck = number % 2 == 0 ? second : first;
                struck.takeBlow(struckPlaces[number], struckHealths[number]);
            }
        }

        private int result() {
            return first.living() - second.living();
        }
    }
}
