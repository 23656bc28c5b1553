import java.util.ArrayDeque;
import java.util.ArrayList;
import java.util.Arrays;
import java.util.Collections;
import java.util.List;
import java.util.NoSuchElementException;
import java.util.TreeSet;

/**
 * The document told a second time, with lists and without thrift, for tests to compare with: the pool as a row of
 * units, a fight with queues of living units. Its calls take a name and up to two numbers.
 */
final class PlainHall {
    private static final class Unit {
        final int kind;
        final int stars;
        int health;
        int blow;

        Unit(int kind, int stars) {
            this.kind = kind;
            this.stars = stars;
        }

        boolean isLike(Unit other) {
            return kind == other.kind && stars == other.stars;
        }

        int stands() {
            return new int[] {0, 1, 3, 9}[stars];
        }
    }

    private static final class Owner {
        int gold = 10;
        int level = 1;
        int health = 20;
        int streak;
        boolean locked;
        Integer[] shop = new Integer[3];
        List<Unit> bench = new ArrayList<>();
        List<Unit> board = new ArrayList<>();
    }

    private final List<Owner> owners = List.of(new Owner(), new Owner(), new Owner(), new Owner());
    private final List<Integer> told = new ArrayList<>();
    private final List<Integer> poolRow = new ArrayList<>();
    private int played;

    PlainHall() {
        for (int kind = 0; kind < 9; kind++) {
            poolRow.addAll(Collections.nCopies(9, kind));
        }
    }

    Object answer(String call, int a, int b) {
        switch (call) {
            case "tell": return tell(a);
            case "roll": return roll(owner(a));
            case "toggleLock": return owner(a).locked = !owner(a).locked;
            case "buyLevel": return buyLevel(owner(a));
            case "buy": return buy(owner(a), slot(b));
            case "sell": return sell(owner(a), b);
            case "toBoard": return toBoard(owner(a), b);
            case "toBench": return toBench(owner(a), b);
            case "round": return round();
            case "rounds": return played;
            case "fight": case "fightByRecord": return fightOfUnlike(a, b);
            case "gold": return owner(a).gold;
            case "health": return owner(a).health;
            case "streak": return owner(a).streak;
            case "shopAt": return shopAt(owner(a), slot(b));
            case "benchAt": return unitIn(owner(a).bench, b, 6);
            case "boardAt": return unitIn(owner(a).board, b, 5);
            case "blow": return blowOf(unit(owner(a).board, b), owner(a).board);
            case "pool": return Collections.frequency(poolRow, kind(a));
            case "out": return 9 - Collections.frequency(poolRow, kind(a));
            default: throw new AssertionError(call);
        }
    }

    private static int cost(int kind) {
        return 1 + kind / 3;
    }

    private static int within(int index, int count) {
        if (index < 0 || index >= count) {
            throw new IndexOutOfBoundsException();
        }
        return index;
    }

    private Owner owner(int player) {
        return owners.get(within(player, 4));
    }

    private static int slot(int slot) {
        return within(slot, 3);
    }

    private static int kind(int kind) {
        return within(kind, 9);
    }

    private static Unit unit(List<Unit> row, int place) {
        return row.get(within(place, row.size()));
    }

    private static void refuseIf(boolean wrong) {
        if (wrong) {
            throw new IllegalStateException();
        }
    }

    private int tell(int number) {
        if (number < 0 || number > 1000) {
            throw new IllegalArgumentException();
        }
        refuseIf(told.size() == 100);
        told.add(number);
        return told.size();
    }

    private int roll(Owner owner) {
        refuseIf(owner.gold == 0);
        owner.gold--;
        owner.locked = false;
        fill(owner);
        return owner.gold;
    }

    private void fill(Owner owner) {
        for (Integer kind : owner.shop) {
            if (kind != null) {
                poolRow.add(kind);
            }
        }
        Collections.sort(poolRow);
        for (int slot = 0; slot < 3; slot++) {
            int number = told.isEmpty() ? 0 : told.remove(0);
            List<Integer> row = new ArrayList<>(poolRow);
            row.removeIf(kind -> cost(kind) > owner.level + 1);
            owner.shop[slot] = row.isEmpty() ? null : row.get(number % row.size());
            poolRow.remove(owner.shop[slot]);
        }
    }

    private int buyLevel(Owner owner) {
        refuseIf(owner.gold < 4 || owner.level == 5);
        owner.gold -= 4;
        return ++owner.level;
    }

    private int buy(Owner owner, int slot) {
        Integer kind = owner.shop[slot];
        if (kind == null) {
            throw new NoSuchElementException();
        }
        refuseIf(owner.gold < cost(kind) || owner.bench.size() == 6);
        owner.gold -= cost(kind);
        owner.shop[slot] = null;
        owner.bench.add(new Unit(kind, 1));
        merge(owner);
        return owner.gold;
    }

    private int sell(Owner owner, int place) {
        Unit sold = unit(owner.bench, place);
        owner.bench.remove(sold);
        poolRow.addAll(Collections.nCopies(sold.stands(), sold.kind));
        Collections.sort(poolRow);
        owner.gold = Math.min(100, owner.gold + cost(sold.kind) * sold.stands());
        return owner.gold;
    }

    private int toBoard(Owner owner, int place) {
        Unit moved = unit(owner.bench, place);
        refuseIf(owner.board.size() == owner.level);
        owner.bench.remove(moved);
        owner.board.add(moved);
        return owner.board.size();
    }

    private int toBench(Owner owner, int place) {
        Unit moved = unit(owner.board, place);
        refuseIf(owner.bench.size() == 6);
        owner.board.remove(moved);
        owner.bench.add(moved);
        merge(owner);
        return owner.bench.size();
    }

    private static void merge(Owner owner) {
        List<Unit> all = new ArrayList<>(owner.board);
        all.addAll(owner.bench);
        Unit best = null;
        for (Unit unit : all) {
            boolean three = unit.stars < 3 && all.stream().filter(unit::isLike).count() > 2;
            if (three && (best == null || 10 * unit.kind + unit.stars < 10 * best.kind + best.stars)) {
                best = unit;
            }
        }
        if (best == null) {
            return;
        }
        int left = 3;
        for (Unit unit : all) {
            if (left > 0 && unit.isLike(best)) {
                List<Unit> row = owner.board.contains(unit) ? owner.board : owner.bench;
                if (left == 3) {
                    row.set(row.indexOf(unit), new Unit(unit.kind, unit.stars + 1));
                } else {
                    row.remove(unit);
                }
                left--;
            }
        }
        merge(owner);
    }

    private static int blowOf(Unit unit, List<Unit> board) {
        TreeSet<Integer> kin = new TreeSet<>();
        for (Unit other : board) {
            if (other.kind % 3 == unit.kind % 3) {
                kin.add(other.kind);
            }
        }
        return 2 * cost(unit.kind) * unit.stars + kin.size() - 1;
    }

    private int fightOfUnlike(int player, int other) {
        Owner first = owner(player);
        Owner second = owner(other);
        if (player == other) {
            throw new IllegalArgumentException();
        }
        return fight(first, second);
    }

    private static int fight(Owner first, Owner second) {
        List<List<Unit>> rows = Arrays.asList(ready(first.board), ready(second.board));
        List<ArrayDeque<Unit>> turns = Arrays.asList(new ArrayDeque<>(rows.get(0)), new ArrayDeque<>(rows.get(1)));
        for (int blow = 0; blow < 60; blow++) {
            if (rows.get(0).isEmpty() || rows.get(1).isEmpty()) {
                break;
            }
            int side = blow & 1;
            Unit striker = turns.get(side).removeFirst();
            turns.get(side).addLast(striker);
            Unit struck = rows.get(1 - side).get(0);
            struck.health -= striker.blow;
            if (struck.health <= 0) {
                rows.get(1 - side).remove(struck);
                turns.get(1 - side).remove(struck);
            }
        }
        return rows.get(0).size() - rows.get(1).size();
    }

    private static List<Unit> ready(List<Unit> board) {
        List<Unit> row = new ArrayList<>();
        for (Unit unit : board) {
            Unit fighter = new Unit(unit.kind, unit.stars);
            fighter.health = 6 * cost(unit.kind) * unit.stars;
            fighter.blow = blowOf(unit, board);
            row.add(fighter);
        }
        return row;
    }

    private int round() {
        refuseIf(played == 200);
        String pairs = new String[] {"01 23", "02 13", "03 12"}[played % 3];
        for (String pair : pairs.split(" ")) {
            settle(owners.get(pair.charAt(0) - '0'), owners.get(pair.charAt(1) - '0'));
        }
        for (Owner owner : owners) {
            int more = 3 + Math.min(3, owner.gold / 10) + (Math.abs(owner.streak) > 1 ? 1 : 0);
            owner.gold = Math.min(100, owner.gold + more);
        }
        for (Owner owner : owners) {
            if (!owner.locked) {
                fill(owner);
            }
        }
        for (Owner owner : owners) {
            owner.locked = false;
        }
        played++;
        return (int) owners.stream().filter(owner -> owner.health > 0).count();
    }

    private static void settle(Owner lower, Owner higher) {
        int result = fight(lower, higher);
        if (result == 0) {
            lower.streak = 0;
            higher.streak = 0;
            return;
        }
        Owner winner = result > 0 ? lower : higher;
        Owner loser = result > 0 ? higher : lower;
        winner.streak = Math.max(0, winner.streak) + 1;
        loser.streak = Math.min(0, loser.streak) - 1;
        loser.health = Math.max(0, loser.health - Math.abs(result) - 1);
    }

    private static int shopAt(Owner owner, int slot) {
        return owner.shop[slot] == null ? -1 : owner.shop[slot];
    }

    private static int unitIn(List<Unit> row, int place, int places) {
        within(place, places);
        return place < row.size() ? 10 * row.get(place).kind + row.get(place).stars : -1;
    }
}
