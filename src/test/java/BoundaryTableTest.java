import java.util.ArrayList;
import java.util.Collections;
import java.util.List;

/** Boundary cases at the table, and of evenings, weighings and images: promises 17 to 27. */
public final class BoundaryTableTest extends Boundaries {
    private static final String SMALL = "cards 5;heaps 2;lies 1;wish 4;";
    private static final int[][] WRONG = {{-1, 0, 0, 0}, {3, 0, 0, 0}, {0, -1, 0, 0}, {0, 2, 0, 0}, {0, 0, -1, 0},
        {0, 0, 2, 0}, {0, 0, 0, -1}, {0, 0, 0, 2}, {MOST, 0, 0, 0}, {LEAST, 0, 0, 0}, {0, MOST, 0, 0}, {0, LEAST, 0, 0},
        {0, 0, MOST, 0}, {0, 0, LEAST, 0}, {0, 0, 0, MOST}, {0, 0, 0, LEAST}, {3, 2, 2, 2}, {-1, -1, -1, -1}};

    public static void main(String[] args) {
        BoundaryTableTest test = new BoundaryTableTest();
        test.card();
        test.answers();
        test.answersFull();
        test.answersRefused();
        test.undone();
        test.lies();
        test.fits();
        test.seen();
        test.between();
        test.betweenHowMany();
        test.evenings();
        test.eveningsRefused();
        test.weighingsKnown();
        test.weighingsUnknown();
        test.image();
        test.restore();
        test.manyCalls();
        test.check.close("BoundaryTableTest");
    }

    private void card() {
        of(17, "at first in their order, place 0 on top.");
        for (int cards : new int[] {2, 27, 60}) {
            PileTricks x = Check.told("heaps 2;cards " + cards + ";");
            for (int place = 0; place < cards; place++) {
                int p = place;
                due("card(" + p + ")", p, () -> x.card(p));
            }
            of(17, "no such place (as everywhere)");
            for (int place : new int[] {-1, cards, cards + 1, 61, LEAST, MOST}) {
                dueThrow(cards + " cards, card(" + place + ")", NO_SUCH, () -> x.card(place));
            }
            of(17, "at first in their order, place 0 on top.");
        }
        of(17, "no such place (as everywhere)");
        for (int place : new int[] {-1, 5, LEAST, MOST}) {
            PileTricks x = Check.told(SMALL);
            dueUnchanged("card(" + place + ")", thrown(NO_SUCH), x, () -> x.card(place));
        }
    }

    private void answers() {
        of(18, "a DEAL (a KIND, a SIDE, a LAYING) is done with THE PACK as it is, a HEAP being NAMED: an ANSWER.");
        PileTricks x = Check.told(SMALL);
        due("in turn, under, laid 0, heap 0", 5, () -> x.answer(0, 0, 0, 0));
        dueRow("the pack", "0 2 4 1 3", () -> pack(x));
        due("to and fro, over, laid 1, heap 0", 5, () -> x.answer(1, 1, 1, 0));
        dueRow("the pack", "4 2 3 1 0", () -> pack(x));
        due("in runs, under, laid 0, heap 1", 2, () -> x.answer(2, 0, 0, 1));
        dueRow("the pack", "1 0 4 2 3", () -> pack(x));
        due("count(5)", 3, () -> x.count(5));
        of(18, "KIND (0 in turn, 1 to and fro, 2 in runs), a SIDE (0 under, 1 over)");
        PileTricks told = Check.told("cards 7;heaps 6;deal turn under at 5;deal turn over at 5;deal fro under at 5;"
            + "deal fro over at 5;deal run under at 5;deal run over at 5;");
        for (int way = 0; way < 6; way++) {
            for (int named = 0; named < 6; named += 5) {
                int h = named;
                int w = way;
                PileTricks y = Check.told("cards 7;heaps 6;");
                check.dueTrue("the last laying, heap 0 and heap 5", y.answer(w / 2, w % 2, 5, h) >= 0);
                dueRow("as a told deal, way " + w + ", heap " + h, gone(told, w, h), () -> pack(y));
            }
        }
        of(18, "how many CARDS FIT then");
        PileTricks none = Check.told("cards 4;heaps 4;");
        due("one", 1, () -> none.answer(2, 0, 0, 0));
        due("none", 0, () -> none.answer(2, 0, 1, 1));
        due("none again", 0, () -> none.answer(2, 0, 1, 1));
        due("all of 60, with two lies", 60, () -> {
            PileTricks y = Check.told("cards 60;lies 2;");
            y.answer(0, 1, 1, 1);
            return y.answer(0, 1, 1, 1);
        });
    }

    private void answersFull() {
        of(18, "At most 20 are");
        PileTricks x = Check.told(SMALL);
        for (int i = 1; i <= 20; i++) {
            int many = i;
            check.dueTrue("an answer", x.answer(i % 3, 1, i % 2, 0) >= 0);
            due("count(5)", many, () -> x.count(5));
        }
        String before = state(x);
        of(18, "NONE (STATUS 1): there are 20");
        due("the 21st", -1, () -> x.answer(0, 0, 0, 0));
        due("the 21st: count(9)", 1, () -> x.count(9));
        dueRow("the 21st leaves all", before, () -> state(x));
        due("the 21st, which is not as told either", -1, () -> x.answer(3, 2, 2, 2));
        due("it is counted once", 2, () -> x.count(9));
        due("count(8)", 0, () -> x.count(8));
        due("one undone", 19, x::undo);
        check.dueTrue("room for one", x.answer(0, 0, 0, 0) >= 0);
        due("and no more", -1, () -> x.answer(0, 0, 0, 0));
        due("and no more: count(5)", 20, () -> x.count(5));
    }

    private void answersRefused() {
        of(18, "KIND, SIDE, LAYING, HEAP are not as told.");
        for (int[] w : WRONG) {
            PileTricks x = Check.told(SMALL);
            x.answer(1, 1, 0, 1);
            String before = state(x);
            due("answer of " + joined(w), -1, () -> x.answer(w[0], w[1], w[2], w[3]));
            dueRow("answer of " + joined(w) + " leaves all", before, () -> state(x));
            due("answer of " + joined(w) + ": count(9)", 1, () -> x.count(9));
            due("answer of " + joined(w) + ": count(8)", 0, () -> x.count(8));
        }
        PileTricks six = Check.told("cards 6;heaps 6;");
        check.dueTrue("the last of each", six.answer(2, 1, 5, 5) == 1);
        due("laying 6 of 6", -1, () -> six.answer(2, 1, 6, 5));
        due("heap 6 of 6", -1, () -> six.answer(2, 1, 5, 6));
        of(18, "STATUS: how many calls were refused: 0 of TEXTS with a FAULT, 1 of ANSWERS.");
        due("count(9)", 2, () -> six.count(9));
        six.undo();
        six.undo();
        six.restore();
        for (int i = 0; i < 26; i++) {
            six.feed(0, 0, 0, 0, 0);
        }
        due("what else answers NONE is not counted: count(9)", 2, () -> six.count(9));
        due("nor here: count(8)", 0, () -> six.count(8));
    }

    private void undone() {
        of(19, "they are UNDONE, the last one first");
        PileTricks x = Check.told("cards 5;heaps 3;lies 2;");
        List<String> tables = new ArrayList<>();
        for (int i = 0; i < 20; i++) {
            tables.add(pack(x) + " / " + x.fits());
            x.answer(i % 3, i / 3 % 2, (i + 1) % 3, i * i % 3);
        }
        Collections.reverse(tables);
        of(19, "The last ANSWER is UNDONE: how many are left.");
        for (int i = 0; i < 20; i++) {
            int left = 19 - i;
            due("undo()", left, x::undo);
            dueRow("undo(): " + left + " left", tables.get(i), () -> pack(x) + " / " + x.fits());
        }
        due("count(5)", 0, () -> x.count(5));
        of(19, "NONE: there are none.");
        due("undo()", -1, x::undo);
        PileTricks none = Check.told(SMALL);
        dueUnchanged("undo()", "-1", none, none::undo);
        none.answer(0, 0, 0, 0);
        none.undo();
        dueUnchanged("undo() behind an undo()", "-1", none, none::undo);
        of(19, "ANSWERS, what was found, the image are gone");
        PileTricks anew = Check.told(SMALL);
        anew.answer(0, 0, 0, 0);
        Check.trick(anew, SMALL);
        due("undo() behind another text", -1, anew::undo);
        dueRow("the pack", "0 1 2 3 4", () -> pack(anew));
        of(19, "SEEN is THE PACK as it lies, once it is told so");
        PileTricks seen = Check.told(SMALL);
        seen.answer(0, 0, 0, 0);
        seen.see();
        seen.undo();
        seen.answer(0, 0, 0, 0);
        due("what was seen is not undone", 432, () -> seen.between(1));
    }

    private void lies() {
        of(20, "How many of the ANSWERS were false, had it been a CARD (0 on).");
        PileTricks x = Check.told("cards 5;heaps 2;");
        for (int card = 0; card < 5; card++) {
            int c = card;
            due("no answers, lies(" + c + ")", 0, () -> x.lies(c));
        }
        for (int i = 0; i < 20; i++) {
            x.answer(2, 0, 0, 0);
        }
        int[] due = {0, 0, 0, 20, 20};
        for (int card = 0; card < 5; card++) {
            int c = card;
            due("20 answers, lies(" + c + ")", due[c], () -> x.lies(c));
        }
        PileTricks y = Check.told(SMALL);
        y.answer(0, 0, 0, 0);
        y.answer(1, 1, 1, 0);
        y.answer(2, 0, 0, 1);
        int[] moved = {0, 1, 2, 2, 2};
        for (int card = 0; card < 5; card++) {
            int c = card;
            due("of a card, not of a place: lies(" + c + ")", moved[c], () -> y.lies(c));
        }
        of(20, "NoSuchElementException: no such CARD.");
        for (int card : new int[] {-1, 5, 6, 60, LEAST, MOST}) {
            PileTricks z = Check.told(SMALL);
            dueUnchanged("lies(" + card + ")", thrown(NO_SUCH), z, () -> z.lies(card));
        }
        PileTricks full = Check.told("cards 60;");
        due("card 59 of 60", 0, () -> full.lies(59));
        dueThrow("card 60 of 60", NO_SUCH, () -> full.lies(60));
    }

    private void fits() {
        of(21, "CARDS that FIT, as bits.");
        for (int cards = 2; cards <= 60; cards++) {
            int many = cards;
            due(many + " cards, no answers", (1L << many) - 1, () -> Check.told("heaps 2;cards " + many + ";").fits());
        }
        PileTricks last = Check.told("cards 60;heaps 6;");
        last.answer(2, 0, 5, 5);
        due("the last ten of sixty", ((1L << 10) - 1) << 50, last::fits);
        PileTricks none = Check.told("cards 4;heaps 4;");
        none.answer(2, 0, 0, 0);
        due("one", 1, none::fits);
        none.answer(2, 0, 1, 1);
        due("none", 0, none::fits);
        due("none: count(6)", 0, () -> none.count(6));
        of(21, "A CARD FITS, if it lay in the HEAP that was NAMED in all ANSWERS but LIES of them at most.");
        for (int lies = 0; lies <= 2; lies++) {
            PileTricks x = Check.told("cards 5;heaps 2;lies " + lies + ";");
            for (int i = 1; i <= 4; i++) {
                // Heap 0 is cards 0, 1, 2 each time: cards 3 and 4 have one false answer more.
                int due = i <= lies ? 31 : 7;
                x.answer(2, 0, 0, 0);
                due(lies + " lies, " + i + " answers", due, x::fits);
                due(lies + " lies, " + i + " answers: count(6)", Integer.bitCount(due), () -> x.count(6));
            }
        }
    }

    private void seen() {
        of(22, "SEEN is THE PACK now.");
        PileTricks x = Check.told("cards 16;heaps 4;");
        x.answer(2, 0, 3, 1);
        due("seen at first", 451, () -> x.between(1));
        x.see();
        due("as it lies", 432, () -> x.between(1));
        x.answer(2, 0, 2, 0);
        due("from there on", 432 + 12, () -> x.between(1));
        x.see();
        x.see();
        due("seen twice", 432, () -> x.between(1));
        x.undo();
        check.dueTrue("the pack before it was seen", x.between(1) != 432);
        PileTricks y = Check.told(SMALL);
        String before = whole(y);
        y.see();
        dueRow("see() changes nothing else", before, () -> whole(y));
    }

    private void between() {
        of(23, "KIND, SIDE, LAYING, HEAP as figures to the base 6 (1; KIND highest; NONE: none)");
        for (int heaps : new int[] {2, 6}) {
            for (int code = 0; code < 648; code++) {
                int kind = code / 216;
                int side = code / 36 % 6;
                int laying = code / 6 % 6;
                int named = code % 6;
                PileTricks x = Check.told("cards 60;heaps " + heaps + ";");
                if (x.answer(kind, side, laying, named) >= 0) {
                    int first = firstWay(x, heaps);
                    int c = code;
                    due("behind " + c, first, () -> x.between(1));
                    check.dueTrue("behind " + c + " there is one", first >= 0 && first <= c && x.between(0) >= 1);
                }
            }
        }
        PileTricks last = Check.told("cards 60;heaps 6;");
        last.answer(2, 1, 5, 3);
        due("in runs, over, laid 5, heap 3", 432 + 36 + 30 + 3, () -> last.between(1));
        last.undo();
        last.answer(2, 1, 5, 4);
        due("in runs, over, heaps 4 and 5 swapped", 432 + 36 + 24 + 5, () -> last.between(1));
        due("in runs, over, heaps 4 and 5 swapped, the one way and the other", 2, () -> last.between(0));
        of(23, "NONE: none");
        PileTricks y = Check.told("cards 16;heaps 4;");
        y.answer(0, 0, 0, 0);
        y.answer(1, 1, 2, 2);
        due("between(0)", 0, () -> y.between(0));
        due("between(1)", -1, () -> y.between(1));
        of(23, "NoSuchElementException: another what.");
        for (int what : new int[] {-1, 2, 3, LEAST, MOST}) {
            PileTricks x = Check.told(SMALL);
            dueUnchanged("between(" + what + ")", thrown(NO_SUCH), x, () -> x.between(what));
        }
    }

    /** The first of all deals by which the pack as at first becomes the one at the table. */
    private static int firstWay(PileTricks x, int heaps) {
        String pack = pack(x);
        String[] kinds = {"turn", "fro", "run"};
        String[] sides = {"under", "over"};
        for (int way = 0; way < 6; way++) {
            for (int laying = 0; laying < heaps; laying++) {
                PileTricks told = Check.told("cards " + x.count(0) + ";heaps " + heaps + ";deal " + kinds[way / 2] + " "
                    + sides[way % 2] + " at " + laying + ";");
                for (int named = 0; named < heaps; named++) {
                    if (told.goes(x.card(0), 0, named) == 0 && gone(told, 0, named).equals(pack)) {
                        return way / 2 * 216 + way % 2 * 36 + laying * 6 + named;
                    }
                }
            }
        }
        return -1;
    }

    private void betweenHowMany() {
        of(23, "BETWEEN it and THE PACK now: DEALS (KIND, SIDE, LAYING, HEAP that is NAMED) by which the one comes of the other: how many; the first");
        // Of two cards in two heaps, each heap one card: all kinds and sides alike.
        PileTricks two = Check.told("cards 2;heaps 2;");
        due("as they lie: two of the four layings and heaps, six ways", 12, () -> two.between(0));
        due("as they lie: the first", 0, () -> two.between(1));
        two.answer(0, 0, 0, 1);
        due("swapped", 12, () -> two.between(0));
        due("swapped: the first", 1, () -> two.between(1));
        PileTricks six = Check.told("cards 6;heaps 6;");
        due("six in six heaps", 36, () -> six.between(0));
        six.answer(2, 1, 5, 0);
        due("six, the first below", 6, () -> six.between(0));
        due("six, the first below: the first", 30, () -> six.between(1));
        PileTricks sixty = Check.told("cards 60;heaps 6;");
        due("sixty as they lie", 6, () -> sixty.between(0));
        due("sixty as they lie: the first", 432, () -> sixty.between(1));
    }

    private static int hits(int seed, int evenings, int cards, int... wanted) {
        long s = seed;
        int hits = 0;
        for (int i = 0; i < evenings; i++) {
            s = (int) (s * 1103515245L + 12345L);
            long bits = (s & 0xffffffffL) / 65536 % 32768;
            for (int one : wanted) {
                hits += bits % cards == one ? 1 : 0;
            }
        }
        return hits;
    }

    private void evenings() {
        of(24, "EVENINGS (0 to 60) by a seed, of n DEALS (0 to 60): each time a place is drawn (a DRAW of CARDS): how often its END is the WISH.");
        int[] seeds = {0, 1, -1, 12345, 1103515245, 1 << 30, 1 << 16, LEAST, MOST};
        for (int seed : seeds) {
            PileTricks x = Check.told("cards 5;heaps 2;wish 3;deal run under at named;");
            PileTricks y = Check.told("cards 2;heaps 2;wish 1;deal turn under at 1-named;");
            for (int many = 0; many <= 60; many++) {
                int evenings = many;
                due("seed " + seed + ", " + many + " evenings", hits(seed, many, 5, 3), () -> x.evenings(seed, evenings, 0));
                due("seed " + seed + ", " + many + " of two", hits(seed, many, 2, 1), () -> y.evenings(seed, evenings, 60));
                due("seed " + seed + ", " + many + " of two swapped", hits(seed, many, 2, 0),
                    () -> y.evenings(seed, evenings, 59));
            }
            due("60 cards, seed " + seed, hits(seed, 60, 60, 59), () -> Check.told("cards 60;wish 59;").evenings(seed, 60, 0));
        }
        due("no evenings", 0, () -> Check.told("wish 13;").evenings(5, 0, 3));
        due("all of sixty", 60, () -> Check.told("wish 13;").evenings(5, 60, 60));
        due("none of sixty", 0, () -> Check.told("wish 12;").evenings(5, 60, 60));
        due("a wish beyond the cards", 0, () -> Check.told("cards 2;heaps 2;wish 2;").evenings(5, 60, 0));
        of(24, "A seed becomes itself times 1103515245 and 12345 (an int that wraps); a DRAW of n is its bits 16 to 30 MOD n then.");
        // Of the seed 1 the first becomes 1103527590, of which bits 16 to 30 are 16838; bit 31 counts for nothing.
        for (int seed : new int[] {1, 1 + LEAST}) {
            for (int place = 0; place < 60; place++) {
                int p = place;
                due("place " + p + " is drawn", p == 16838 % 60 ? 1 : 0,
                    () -> Check.told("cards 60;wish " + p + ";").evenings(seed, 1, 0));
            }
        }
        PileTricks x = Check.told(SMALL);
        dueUnchanged("a seed is taken anew each time", Integer.toString(hits(7, 9, 5, 4)), x, () -> x.evenings(7, 9, 0));
        due("the same again", hits(7, 9, 5, 4), () -> x.evenings(7, 9, 0));
    }

    private void eveningsRefused() {
        of(24, "IllegalArgumentException: also how many.");
        for (int wrong : new int[] {-1, 61, LEAST, MOST}) {
            PileTricks x = Check.told(SMALL);
            dueUnchanged("evenings(1, " + wrong + ", 0)", thrown(ILLEGAL), x, () -> x.evenings(1, wrong, 0));
            of(24, "n (as everywhere)");
            dueUnchanged("evenings(1, 1, " + wrong + ")", thrown(ILLEGAL), x, () -> x.evenings(1, 1, wrong));
            dueThrow("evenings(1, 0, " + wrong + ")", ILLEGAL, () -> x.evenings(1, 0, wrong));
            dueThrow("evenings(1, -1, " + wrong + ")", ILLEGAL, () -> x.evenings(1, -1, wrong));
            of(24, "IllegalArgumentException: also how many.");
        }
    }

    private void weighingsKnown() {
        of(25, "the fewest by which one of 1 to 1000 CARDS that is heavier than all others is found");
        PileTricks x = new PileTricks();
        int[] most = {1, 3, 9, 27, 81, 243, 729, 1000};
        int weighings = 0;
        for (int cards = 1; cards <= 1000; cards += cards < 30 ? 1 : 7) {
            while (cards > most[weighings]) {
                weighings++;
            }
            int c = cards;
            int due = weighings;
            due(c + " cards", due, () -> x.weighings(c, true));
        }
        for (int i = 0; i < 7; i++) {
            int c = most[i];
            int due = i;
            due(c + " cards", due, () -> x.weighings(c, true));
            due(c + 1 + " cards", due + 1, () -> x.weighings(c + 1, true));
        }
        due("1000 cards", 7, () -> x.weighings(1000, true));
        of(25, "of 1: 0 the first way");
        due("1 card", 0, () -> x.weighings(1, true));
        of(25, "IllegalArgumentException: not 1 to 1000 CARDS.");
        for (int cards : new int[] {0, -1, 1001, LEAST, MOST}) {
            PileTricks y = Check.told(SMALL);
            dueUnchanged("weighings(" + cards + ", true)", thrown(ILLEGAL), y, () -> y.weighings(cards, true));
            dueUnchanged("weighings(" + cards + ", false)", thrown(ILLEGAL), y, () -> y.weighings(cards, false));
        }
    }

    private void weighingsUnknown() {
        of(25, "or one that is heavier or lighter, it isn't known which, and which it is is told, too");
        PileTricks x = new PileTricks();
        int[] most = {3, 12, 39, 120, 363};
        for (int i = 0; i < most.length; i++) {
            int c = most[i];
            int due = i + 2;
            due(c + " cards", due, () -> x.weighings(c, false));
            due(c - 1 + " cards", c == 3 ? -1 : due, () -> x.weighings(c - 1, false));
            due(c + 1 + " cards", due + 1, () -> x.weighings(c + 1, false));
        }
        due("1000 cards", 7, () -> x.weighings(1000, false));
        due("4 cards", 3, () -> x.weighings(4, false));
        of(25, "(of 2: none will do; of 1: 0 the first way, none the second)");
        due("2 cards", -1, () -> x.weighings(2, false));
        due("1 card", -1, () -> x.weighings(1, false));
        due("2 cards, heavier", 1, () -> x.weighings(2, true));
        due("1 card, heavier", 0, () -> x.weighings(1, true));
    }

    private void image() {
        of(26, "THE PACK, ANSWERS and what was SEEN are kept as an image, in place of another one.");
        PileTricks x = Check.told(SMALL);
        x.answer(0, 0, 0, 0);
        x.see();
        x.answer(1, 1, 1, 0);
        String first = table(x);
        dueRow("image() changes nothing", whole(x), () -> {
            x.image();
            return whole(x);
        });
        x.undo();
        x.undo();
        x.see();
        due("restore()", 1, () -> x.restore() ? 1 : 0);
        dueRow("as it was", first, () -> table(x));
        x.answer(2, 0, 0, 1);
        x.see();
        x.answer(2, 1, 0, 1);
        String second = table(x);
        x.image();
        x.undo();
        x.see();
        due("restore() of another one", 1, () -> x.restore() ? 1 : 0);
        dueRow("as it was then", second, () -> table(x));
        PileTricks others = Check.told(SMALL);
        others.answer(0, 0, 0, 1);
        others.answer(1, 1, 1, 0);
        String kept = table(others);
        others.image();
        others.undo();
        others.undo();
        others.answer(2, 0, 0, 1);
        others.answer(0, 1, 1, 1);
        others.answer(0, 1, 0, 1);
        due("other answers given since", 1, () -> others.restore() ? 1 : 0);
        dueRow("other answers given since: as they were", kept, () -> table(others));
        due("other answers given since: undo()", 1, others::undo);
        due("other answers given since: undo()", 0, others::undo);
        dueRow("the answers of the image are undone", "0 1 2 3 4", () -> pack(others));
        PileTricks full = Check.told(SMALL);
        full.image();
        for (int i = 0; i < 20; i++) {
            full.answer(1, 0, 1, i % 2);
        }
        String twenty = table(full);
        full.image();
        for (int i = 0; i < 20; i++) {
            full.undo();
        }
        due("restore() of 20 answers", 1, () -> full.restore() ? 1 : 0);
        dueRow("20 answers", twenty, () -> table(full));
        due("20 answers: a 21st", -1, () -> full.answer(0, 0, 0, 0));
        for (int i = 19; i >= 0; i--) {
            int left = i;
            due("20 answers: undo()", left, full::undo);
        }
        dueRow("all of them undone", "0 1 2 3 4", () -> pack(full));
        due("all of them undone: undo()", -1, full::undo);
    }

    private void restore() {
        of(27, "False: there is none.");
        PileTricks none = Check.told(SMALL);
        none.answer(0, 0, 0, 0);
        dueUnchanged("restore()", "0", none, () -> none.restore() ? 1 : 0);
        of(27, "ANSWERS, what was found, the image are gone");
        none.image();
        Check.trick(none, SMALL);
        none.answer(0, 0, 0, 0);
        dueUnchanged("restore() behind another text", "0", none, () -> none.restore() ? 1 : 0);
        of(27, "They are as the image again: true.");
        PileTricks x = Check.told(SMALL);
        x.image();
        String atFirst = table(x);
        for (int i = 0; i < 3; i++) {
            x.answer(i, 1, 1, 0);
            x.answer(9, 0, 0, 0);
            x.see();
            due("restore() again and again", 1, () -> x.restore() ? 1 : 0);
            dueRow("of no answers", atFirst, () -> table(x));
        }
        due("STATUS is not restored", 3, () -> x.count(9));
        due("no answers: undo()", -1, x::undo);
        due("the image is left as it is", 1, () -> x.restore() ? 1 : 0);
        PileTricks y = Check.told(SMALL);
        y.image();
        y.feed(0, 0, 0, 0, 0);
        y.wished(4, 3);
        String found = Check.outcome(() -> y.laying(0));
        y.restore();
        due("the tape is not restored", 20, () -> y.count(7));
        dueRow("nor what was found", found, () -> Check.outcome(() -> y.laying(0)));
    }

    /** 512 calls, the dearest among them, on one object. */
    private void manyCalls() {
        of(1, "An object is used for at most 512 calls after it has been made");
        PileTricks x = Check.told("cards 60;heaps 4;lies 2;deal fro over at named*3+size;deal turn under at deal+2;");
        long worst = x.worst(6);
        for (int i = 0; i < 250; i++) {
            due("worst(6)", worst, () -> x.worst(6));
            due("weighings(1000, false)", 7, () -> x.weighings(1000, false));
        }
    }
}
