import java.util.HashMap;
import java.util.Map;

/**
 * Promise 25, "the fewest by which one of 1 to 1000 CARDS .. is found": sought among all weighings, up to 40 cards,
 * since the class and the other tests go by how many cards so many weighings are enough for.
 */
public final class WeighingsTest {
    private static final int MOST_CARDS = 40;
    private static final int MOST_WEIGHINGS = 4;
    private static final int NONE = -1;

    private final Map<Long, Boolean> known = new HashMap<>();

    public static void main(String[] args) {
        WeighingsTest test = new WeighingsTest();
        Check check = new Check();
        PileTricks x = new PileTricks();
        for (int i = 1; i <= MOST_CARDS; i++) {
            int cards = i;
            check.due("weighings(" + cards + ", true)", test.fewest(0, cards), () -> x.weighings(cards, true));
            int either = test.fewest(cards, 0);
            if (either != NONE || cards <= 2) {
                check.due("weighings(" + cards + ", false)", either, () -> x.weighings(cards, false));
            } else {
                check.dueTrue("weighings(" + cards + ", false) is more than 4", x.weighings(cards, false) > MOST_WEIGHINGS);
            }
        }
        check.due("of 39 four are enough, of 40 not", 4, () -> x.weighings(39, false) * (x.weighings(40, false) > 4 ? 1 : 0));
        check.close("WeighingsTest");
    }

    private int fewest(int either, int heavy) {
        for (int n = 0; n <= MOST_WEIGHINGS; n++) {
            if (isFound(new Pile(either, heavy, 0, 0), n)) {
                return n;
            }
        }
        return NONE;
    }

    /** How many cards may be heavier or lighter, heavier only, lighter only, and are as the others. */
    private record Pile(int either, int heavy, int light, int plain) {
        int ways() {
            return 2 * either + heavy + light;
        }

        int size() {
            return either + heavy + light;
        }

        Pile less(Pile other) {
            return new Pile(either - other.either, heavy - other.heavy, light - other.light, plain + other.size());
        }
    }

    private boolean isFound(Pile pile, int n) {
        if (pile.ways() <= 1) {
            return true;
        }
        if (n == 0 || pile.ways() > Math.pow(3, n)) {
            return false;
        }
        long key = (((pile.either * 64L + pile.heavy) * 64 + pile.light) * 64 + pile.plain) * 8 + n;
        Boolean before = known.get(key);
        if (before == null) {
            before = isFoundByOne(pile, n);
            known.put(key, before);
        }
        return before;
    }

    private boolean isFoundByOne(Pile pile, int n) {
        for (int e = 0; e <= pile.either; e++) {
            for (int h = 0; h <= pile.heavy; h++) {
                for (int l = 0; l <= pile.light; l++) {
                    Pile weighed = new Pile(e, h, l, 0);
                    Pile aside = pile.less(weighed);
                    if (weighed.size() > 0 && isFound(aside, n - 1) && isFoundOnSides(pile, weighed, n)) {
                        return true;
                    }
                }
            }
        }
        return false;
    }

    private boolean isFoundOnSides(Pile pile, Pile weighed, int n) {
        for (int e = 0; e <= weighed.either; e++) {
            for (int h = 0; h <= weighed.heavy; h++) {
                for (int l = 0; l <= weighed.light; l++) {
                    Pile left = new Pile(e, h, l, 0);
                    Pile right = weighed.less(left);
                    // Cards that are known to be plain make both sides as many.
                    if (Math.abs(left.size() - right.size()) <= pile.plain
                            && isFound(heavier(left, right, pile), n - 1) && isFound(heavier(right, left, pile), n - 1)) {
                        return true;
                    }
                }
            }
        }
        return false;
    }

    private static Pile heavier(Pile down, Pile up, Pile all) {
        int heavy = down.either + down.heavy;
        int light = up.either + up.light;
        return new Pile(0, heavy, light, all.size() + all.plain - heavy - light);
    }
}
