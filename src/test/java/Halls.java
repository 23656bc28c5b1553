import java.util.function.Consumer;
import java.util.function.Function;
import java.util.function.Supplier;

/** Ways to bring a hall into a state that a test wants, and to look at the whole of it. */
final class Halls {
    static final int KINDS = 9;
    static final int PLAYERS = 4;

    private Halls() { }

    /** A hall in which each player has 100 gold and an empty shop, and the pool is full; it takes 85 calls. */
    static Gladehall rich() {
        Gladehall hall = new Gladehall();
        for (int i = 0; i < 17; i++) {
            roundOfLockedShops(hall);
        }
        return hall;
    }

    static void roundOfLockedShops(Gladehall hall) {
        for (int player = 0; player < PLAYERS; player++) {
            hall.toggleLock(player);
        }
        hall.round();
    }

    /** A hall in which the player has just so much gold, 0 to 100, and at most its shop holds units of it. */
    static Gladehall withGold(int player, int gold) {
        Gladehall hall = new Gladehall();
        for (int i = 0; i < 17 && hall.gold(player) < gold; i++) {
            roundOfLockedShops(hall);
        }
        spendDownTo(hall, player, gold);
        return hall;
    }

    /** Rolls until the player has just so much gold. */
    static void spendDownTo(Gladehall hall, int player, int gold) {
        while (hall.gold(player) > gold) {
            hall.roll(player);
        }
        Checks.due("gold at hand", hall.gold(player), gold);
    }

    /** A rich hall in which each player has the level 5, with 84 gold left. */
    static Gladehall grown() {
        Gladehall hall = rich();
        for (int player = 0; player < PLAYERS; player++) {
            levels(hall, player, 4);
        }
        return hall;
    }

    static void levels(Gladehall hall, int player, int count) {
        for (int i = 0; i < count; i++) {
            hall.buyLevel(player);
        }
    }

    /**
     * Rolls so that each slot offers the kind, as long as the pool and this shop have that many of it.
     * No numbers may be left, and the level must allow the kind's cost.
     */
    static void offer(Gladehall hall, int player, int kind) {
        int place = 0;
        for (int lower = 0; lower < kind; lower++) {
            place += hall.pool(lower);
        }
        for (int slot = 0; slot < 3; slot++) {
            int offered = hall.shopAt(player, slot);
            place += offered != Gladehall.NONE && offered < kind ? 1 : 0;
        }
        for (int slot = 0; slot < 3; slot++) {
            hall.tell(place);
        }
        hall.roll(player);
    }

    static void buy(Gladehall hall, int player, int kind, int count) {
        for (int bought = 0; bought < count; bought++) {
            if (bought % 3 == 0) {
                offer(hall, player, kind);
            }
            hall.buy(player, bought % 3);
        }
    }

    /** Buys one of each of these kinds, and moves each to the board at once; the bench must be empty. */
    static void board(Gladehall hall, int player, int... kinds) {
        for (int kind : kinds) {
            team(hall, player, 10 * kind + 1);
        }
    }

    /** Brings such units, told as boardAt tells them, to the end of the board; the bench must be empty. */
    static void team(Gladehall hall, int player, int... units) {
        for (int unit : units) {
            int stars = unit % 10;
            buy(hall, player, unit / 10, stars == 1 ? 1 : stars == 2 ? 3 : 9);
            hall.toBoard(player, 0);
        }
    }

    /** A unit of a shop just rolled comes to the board; takes 2 gold of a player whose bench is empty. */
    static void field(Gladehall hall, int player) {
        hall.roll(player);
        hall.buy(player, 0);
        hall.toBoard(player, 0);
    }

    static String shop(Gladehall hall, int player) {
        StringBuilder text = new StringBuilder();
        for (int slot = 0; slot < 3; slot++) {
            text.append(slot == 0 ? "" : " ").append(hall.shopAt(player, slot));
        }
        return text.toString();
    }

    static String bench(Gladehall hall, int player) {
        StringBuilder text = new StringBuilder();
        for (int place = 0; place < 6; place++) {
            text.append(place == 0 ? "" : " ").append(hall.benchAt(player, place));
        }
        return text.toString();
    }

    static String board(Gladehall hall, int player) {
        StringBuilder text = new StringBuilder();
        for (int place = 0; place < 5; place++) {
            text.append(place == 0 ? "" : " ").append(hall.boardAt(player, place));
        }
        return text.toString();
    }

    static String all(Gladehall hall, Function<Integer, Integer> question, int count) {
        StringBuilder text = new StringBuilder();
        for (int i = 0; i < count; i++) {
            text.append(i == 0 ? "" : " ").append(question.apply(i));
        }
        return text.toString();
    }

    /** All that can be asked for without a change, in 87 calls. */
    static String picture(Gladehall hall) {
        StringBuilder text = new StringBuilder("rounds ").append(hall.rounds());
        for (int player = 0; player < PLAYERS; player++) {
            text.append("; player ").append(player)
                .append(": gold ").append(hall.gold(player))
                .append(", health ").append(hall.health(player))
                .append(", streak ").append(hall.streak(player))
                .append(", shop ").append(shop(hall, player))
                .append(", bench ").append(bench(hall, player))
                .append(", board ").append(board(hall, player));
        }
        text.append("; pool ").append(all(hall, hall::pool, KINDS));
        text.append("; out ").append(all(hall, hall::out, KINDS));
        return text.toString();
    }

    /** What can be seen only by going on: the numbers that are left, the levels and the locks. */
    static String sequel(Gladehall hall) {
        StringBuilder text = new StringBuilder();
        text.append(Checks.outcome(() -> hall.tell(7)));
        for (int player = 0; player < PLAYERS; player++) {
            int who = player;
            text.append(' ').append(Checks.outcome(() -> hall.buyLevel(who)));
        }
        text.append(' ').append(Checks.outcome(() -> hall.round()));
        text.append(' ').append(Checks.outcome(() -> hall.roll(0)));
        return text.toString();
    }

    /** The call throws this, and leaves the hall as one is to which the call was never made. */
    static void throwsAndChangesNothing(String what, Class<? extends RuntimeException> want,
            Supplier<Gladehall> setUp, Consumer<Gladehall> call) {
        Gladehall called = setUp.get();
        Gladehall spared = setUp.get();
        Checks.throwsDue(what, want, () -> {
            call.accept(called);
            return "nothing";
        });
        Checks.due(what + ": the picture then", picture(called), picture(spared));
        Checks.due(what + ": the sequel", sequel(called), sequel(spared));
        Checks.due(what + ": the picture behind the sequel", picture(called), picture(spared));
    }
}
