import java.util.ArrayList;
import java.util.List;

/** Boundary cases of told deals: promises 7 to 16, and how cards are DEALT and LAID together. */
public final class BoundaryDealTest extends Boundaries {
    private static final String SMALL = "cards 5;heaps 2;lies 1;deal turn under at 0;deal fro over at 1;deal run under at named;";
    private static final int[] NO_PLACES = {-1, 5, 6, 60, LEAST, MOST};
    private static final int[] NO_ENDS = {-1, 61, LEAST, MOST};

    public static void main(String[] args) {
        BoundaryDealTest test = new BoundaryDealTest();
        test.dealt();
        test.laid();
        test.roundTheDeals();
        test.withoutDeals();
        test.goesRefused();
        test.ends();
        test.endsRefused();
        test.sure();
        test.soonest();
        test.wished();
        test.wishedRound();
        test.wishedKept();
        test.fewest();
        test.always();
        test.two();
        test.twoRefused();
        test.worst();
        test.check.close("BoundaryDealTest");
    }

    /** The pack behind a deal that lays all heaps in their order: heap 0, heap 1, and so on. */
    private void heaps(int cards, int heaps, String how, String pack) {
        PileTricks x = Check.told("cards " + cards + ";heaps " + heaps + ";deal " + how + " at named;");
        for (int named = 0; named < heaps; named += heaps - 1) {
            int h = named;
            dueRow(cards + " cards, " + heaps + " heaps, " + how, pack, () -> gone(x, 0, h));
        }
    }

    private void dealt() {
        of(7, "in turn p MOD HEAPS");
        heaps(2, 2, "turn under", "0 1");
        heaps(3, 2, "turn under", "0 2 1");
        heaps(7, 3, "turn under", "0 3 6 1 4 2 5");
        heaps(6, 6, "turn under", "0 1 2 3 4 5");
        heaps(7, 6, "turn under", "0 6 1 2 3 4 5");
        of(7, "q is p MOD twice HEAPS: q, if that is below HEAPS, else twice HEAPS less 1 less q");
        heaps(2, 2, "fro under", "0 1");
        heaps(3, 2, "fro under", "0 1 2");
        heaps(5, 2, "fro under", "0 3 4 1 2");
        heaps(5, 4, "fro under", "0 1 2 3 4");
        heaps(9, 4, "fro under", "0 7 8 1 6 2 5 3 4");
        heaps(14, 3, "fro under", "0 5 6 11 12 1 4 7 10 13 2 3 8 9");
        of(7, "the first HEAPS have one CARD more each, as many of them as CARDS MOD HEAPS, CARDS by HEAPS cut down being what all others have");
        heaps(2, 2, "run over", "0 1");
        heaps(3, 2, "run over", "1 0 2");
        heaps(7, 3, "run over", "2 1 0 4 3 6 5");
        heaps(8, 3, "run over", "2 1 0 5 4 3 7 6");
        heaps(9, 3, "run over", "2 1 0 5 4 3 8 7 6");
        heaps(6, 6, "run over", "0 1 2 3 4 5");
        heaps(7, 6, "run over", "1 0 2 3 4 5 6");
        heaps(11, 6, "run over", "1 0 3 2 5 4 7 6 9 8 10");
        of(7, "In a HEAP they lie in the order in which they came (under: the first on top), or the other way round (over: the last on top).");
        heaps(7, 3, "turn over", "6 3 0 4 1 5 2");
        heaps(14, 3, "fro over", "12 11 6 5 0 13 10 7 4 1 9 8 3 2");
        heaps(7, 3, "run under", "0 1 2 3 4 5 6");
    }

    private void laid() {
        of(7, "all HEAPS but the one that is NAMED in their order, that one such that as many HEAPS as its LAYING says lie ahead of it (above it)");
        for (int heaps = 2; heaps <= 6; heaps++) {
            for (int laying = 0; laying < heaps; laying++) {
                PileTricks x = Check.told("cards " + heaps + ";heaps " + heaps + ";deal turn under at " + laying + ";");
                for (int named = 0; named < heaps; named++) {
                    List<Integer> row = new ArrayList<>();
                    for (int heap = 0; heap < heaps; heap++) {
                        row.add(heap);
                    }
                    row.add(laying, row.remove(named));
                    int h = named;
                    dueRow(heaps + " heaps, " + named + " laid " + laying,
                        row.toString().replaceAll("[\\[\\],]", ""), () -> gone(x, 0, h));
                }
            }
        }
        PileTricks uneven = Check.told("cards 5;heaps 3;deal turn under at 0;deal turn under at 1;deal turn under at 2;");
        dueRow("the short heap on top", "2 0 3 1 4", () -> gone(uneven, 0, 2));
        dueRow("the short heap between", "0 3 2 1 4", () -> gone(uneven, 1, 2));
        dueRow("a long heap below", "1 4 2 0 3", () -> gone(uneven, 2, 0));
    }

    private void roundTheDeals() {
        of(7, "the i-th of THE DEALS (0 on, going round)");
        PileTricks x = Check.told(SMALL);
        String[] packs = {"0 2 4 1 3", "2 1 4 3 0", "3 4 0 1 2"};
        int[] namedIn = {0, 0, 1};
        int[] rounds = {0, 1, 2, 3, 4, 5, 60, 2147483646, MOST};
        PileTricks three = Check.told("cards 5;heaps 2;deal turn under at 0;deal fro over at 1;deal run under at 0;");
        for (int i : rounds) {
            dueRow("deal " + i, packs[i % 3], () -> gone(three, i, namedIn[i % 3]));
        }
        dueRow("a single one", "0 2 4 1 3", () -> gone(Check.told("cards 5;heaps 2;deal turn under at 0;"), MOST, 0));
        of(7, "'deal' (the DEAL's number, 0 on)");
        PileTricks number = Check.told("cards 3;deal turn under at deal;deal turn under at deal;");
        for (int i = 0; i < 6; i++) {
            int deal = i;
            due("deal " + i + " lays by its own number", i % 2, () -> number.goes(2, deal, 2));
        }
        due("the pack at the table stays", 0, () -> x.goes(0, 0, 0) + x.card(0));
    }

    private void withoutDeals() {
        of(7, "a TRICK without DEALS is as if one were told: 'deal turn over at heaps/2' (it isn't counted)");
        for (int heaps = 2; heaps <= 6; heaps++) {
            String text = "cards 13;heaps " + heaps + ";";
            PileTricks none = Check.told(text);
            PileTricks one = Check.told(text + "deal turn over at " + heaps / 2 + ";");
            due("count(2)", 0, () -> none.count(2));
            for (int named = 0; named < heaps; named++) {
                int h = named;
                String pack = gone(one, 0, h);
                dueRow(heaps + " heaps, deal 0", pack, () -> gone(none, 0, h));
                dueRow(heaps + " heaps, deal 7", pack, () -> gone(none, 7, h));
            }
            for (int place = 0; place < 13; place++) {
                int p = place;
                due(heaps + " heaps, end(" + p + ", 2)", one.end(p, 2), () -> none.end(p, 2));
            }
            due("soonest()", one.soonest(), none::soonest);
            due("wished(6, 3)", one.wished(6, 3), () -> none.wished(6, 3));
            due("two(1, 12, 3)", one.two(1, 12, 3), () -> none.two(1, 12, 3));
            due("worst(2)", one.worst(2), () -> none.worst(2));
        }
        PileTricks read = Check.told("cards 5;heaps 2;" + "deal run under at 0;".repeat(8));
        Check.trick(read, "cards 5;heaps 2;");
        for (int i = 0; i < 8; i++) {
            int deal = i;
            dueRow("behind a text with deals, deal " + i, "3 1 4 2 0", () -> gone(read, deal, 0));
        }
    }

    private void goesRefused() {
        of(7, "NoSuchElementException: no such place (as everywhere)");
        for (int place : NO_PLACES) {
            PileTricks x = Check.told(SMALL);
            dueUnchanged("goes(" + place + ", 0, 0)", thrown(NO_SUCH), x, () -> x.goes(place, 0, 0));
        }
        due("the last place", 2, () -> Check.told(SMALL).goes(4, 0, 0));
        due("place 59 of 60", 59, () -> Check.told("cards 60;heaps 2;deal run under at named;").goes(59, 0, 0));
        dueThrow("place 60 of 60", NO_SUCH, () -> Check.told("cards 60;").goes(60, 0, 0));
        of(7, "i is below 0");
        for (int i : new int[] {-1, -3, LEAST}) {
            PileTricks x = Check.told(SMALL);
            dueUnchanged("goes(0, " + i + ", 0)", thrown(NO_SUCH), x, () -> x.goes(0, i, 0));
            dueThrow("no deals, " + i, NO_SUCH, () -> new PileTricks().goes(0, i, 0));
        }
        of(7, "no such HEAP (as everywhere)");
        for (int named : new int[] {-1, 2, 6, LEAST, MOST}) {
            PileTricks x = Check.told(SMALL);
            dueUnchanged("goes(0, 0, " + named + ")", thrown(NO_SUCH), x, () -> x.goes(0, 0, named));
        }
        dueThrow("heap 6 of 6", NO_SUCH, () -> Check.told("heaps 6;").goes(0, 0, 6));
    }

    private void ends() {
        of(8, "THE END of a place by n DEALS (0 to 60): where a CARD ends that is FOLLOWED.");
        PileTricks swap = Check.told("cards 2;heaps 2;deal turn under at 1-named;");
        PileTricks turn = Check.told("cards 3;deal turn under at named+1;deal turn under at named;");
        for (int n = 0; n <= 60; n++) {
            int deals = n;
            due("swapped " + n + " times", n % 2, () -> swap.end(0, deals));
            due("swapped " + n + " times, from 1", 1 - n % 2, () -> swap.end(1, deals));
            due("turned by each other of " + n, (n + 1) / 2 % 3, () -> turn.end(0, deals));
        }
        for (int place = 0; place < 60; place++) {
            int p = place;
            due("by none", p, () -> Check.told("cards 60;").end(p, 0));
        }
        of(8, "A CARD is FOLLOWED, if the HEAP that is NAMED in each DEAL is that in which it lies.");
        PileTricks x = Check.told(SMALL);
        int[] one = {0, 0, 1, 1, 2};
        int[] two = {4, 4, 4, 4, 3};
        for (int place = 0; place < 5; place++) {
            int p = place;
            due("end(" + p + ", 1)", one[p], () -> x.end(p, 1));
            due("end(" + p + ", 2)", two[p], () -> x.end(p, 2));
        }
    }

    private void endsRefused() {
        of(8, "no such place (as everywhere)");
        for (int place : NO_PLACES) {
            PileTricks x = Check.told(SMALL);
            dueUnchanged("end(" + place + ", 1)", thrown(NO_SUCH), x, () -> x.end(place, 1));
        }
        of(8, "IllegalArgumentException (behind NoSuchElementException): n (as everywhere).");
        for (int n : NO_ENDS) {
            PileTricks x = Check.told(SMALL);
            dueUnchanged("end(4, " + n + ")", thrown(ILLEGAL), x, () -> x.end(4, n));
            dueThrow("end(5, " + n + ")", NO_SUCH, () -> x.end(5, n));
            dueThrow("end(-1, " + n + ")", NO_SUCH, () -> x.end(-1, n));
        }
    }

    private void sure() {
        of(9, "SURE behind n DEALS: all places have one END.");
        PileTricks pair = Check.told("cards 2;heaps 2;deal turn under at 1;");
        due("none", -1, () -> pair.sure(0));
        for (int n = 1; n <= 60; n++) {
            int deals = n;
            due("sure(" + n + ")", 1, () -> pair.sure(deals));
        }
        due("all but the first place", -1, () -> Check.told("cards 3;deal turn under at named=0;").sure(1));
        due("all but one between", -1, () -> Check.told("cards 3;deal turn under at named=1;").sure(1));
        due("all but the last place", -1, () -> Check.told("cards 3;deal turn under at named=2;").sure(1));
        due("place 0", 0, () -> Check.told("cards 3;deal turn under at 0;").sure(1));
        due("place 2", 2, () -> Check.told("cards 3;deal turn under at 2;").sure(1));
        due("never", -1, () -> Check.told("cards 3;deal turn under at named;").sure(60));
        of(9, "the place; NONE: not.");
        int[] places = {-1, -1, -1, 13, 13};
        for (int n = 0; n < places.length; n++) {
            int deals = n;
            due("27 cards, sure(" + n + ")", places[n], () -> new PileTricks().sure(deals));
        }
        of(9, "n (as everywhere)");
        for (int n : NO_ENDS) {
            PileTricks x = Check.told(SMALL);
            dueUnchanged("sure(" + n + ")", thrown(ILLEGAL), x, () -> x.sure(n));
        }
    }

    private void soonest() {
        of(10, "SOONEST: the least n (0 to 60) behind which it is so.");
        due("1", 1, Check.told("cards 6;heaps 6;")::soonest);
        due("2", 2, Check.told("cards 7;heaps 6;")::soonest);
        due("5", 5, Check.told("cards 32;heaps 2;")::soonest);
        PileTricks latest = Check.told("cards 50;heaps 4;deal fro under at named;deal fro over at named;"
            + "deal run under at named;deal fro under at size;");
        due("60", 60, latest::soonest);
        due("60: not behind 59", -1, () -> latest.sure(59));
        of(10, "NONE: not up to 60.");
        PileTricks late = Check.told("cards 44;heaps 3;deal fro under at deal;deal fro under at named;deal turn over at named;"
            + "deal turn under at 2*named;deal fro under at named;deal turn over at named;");
        due("61", -1, late::soonest);
        for (int place = 0; place < 44; place++) {
            int there = late.end(place, 60);
            int q = there % 6;
            due("61: one deal more would do", 14, () -> late.goes(there, 60, q < 3 ? q : 5 - q));
        }
        due("never", -1, Check.told("cards 2;heaps 2;deal turn under at named;")::soonest);
        due("never, of 60", -1, Check.told("cards 60;heaps 6;deal run under at named;")::soonest);
        PileTricks x = Check.told(SMALL);
        dueUnchanged("soonest()", "-1", x, x::soonest);
    }

    private void wished() {
        of(11, "A WISHED place by n DEALS (1 to 5; of the DEALS KIND and SIDE alone)");
        for (int place = 0; place < 6; place++) {
            int p = place;
            PileTricks six = Check.told("cards 6;heaps 6;deal fro under at named*7;");
            PileTricks two = Check.told("cards 2;heaps 2;deal turn under at named;");
            int rows = 1;
            for (int n = 1; n <= 5; n++) {
                int deals = n;
                due("six in six heaps: wished(" + p + ", " + n + ")", rows, () -> six.wished(p, deals));
                dueRow("six in six heaps: the first", "0 ".repeat(n - 1) + p, () -> kept(six, deals));
                int twos = 1 << n - 1;
                if (p < 2) {
                    due("two in two heaps: wished(" + p + ", " + n + ")", twos, () -> two.wished(p, deals));
                }
                rows *= 6;
            }
        }
        of(11, "no such place (as everywhere)");
        for (int place : NO_PLACES) {
            PileTricks x = Check.told(SMALL);
            dueUnchanged("wished(" + place + ", 3)", thrown(NO_SUCH), x, () -> x.wished(place, 3));
        }
        of(11, "IllegalArgumentException (behind NoSuchElementException): n (as everywhere)");
        for (int n : new int[] {0, 6, -1, 60, LEAST, MOST}) {
            PileTricks x = Check.told(SMALL);
            x.wished(0, 4);
            dueUnchanged("wished(0, " + n + ")", thrown(ILLEGAL), x, () -> x.wished(0, n));
            dueThrow("wished(5, " + n + ")", NO_SUCH, () -> x.wished(5, n));
            dueThrow("wished(-1, " + n + ")", NO_SUCH, () -> x.wished(-1, n));
        }
    }

    /** All rows of layings, each told as a text of its own: where all places end by it. */
    private void wishedRound() {
        of(11, "LAYINGS, one of each, by which all places have that END: how many such rows; the first.");
        String[] ways = {"deal turn under at ", "deal fro over at ", "deal run under at "};
        String[] texts = {"cards 3;heaps 2;", "cards 4;heaps 2;", "cards 5;heaps 2;", "cards 6;heaps 3;"};
        for (String text : texts) {
            int heaps = Check.told(text).count(1);
            PileTricks x = Check.told(text + ways[0] + "named;" + ways[1] + "size;" + ways[2] + "0;");
            int[] fewest = {-1, -1, -1, -1, -1, -1};
            for (int n = 1; n <= 5; n++) {
                int[] rows = new int[6];
                String[] first = new String[6];
                for (int row = 0; row < Math.pow(heaps, n); row++) {
                    StringBuilder deals = new StringBuilder(text);
                    StringBuilder layings = new StringBuilder();
                    for (int i = 0; i < n; i++) {
                        int laying = row / (int) Math.pow(heaps, n - 1 - i) % heaps;
                        deals.append(ways[i % 3]).append(laying).append(';');
                        layings.append(i == 0 ? "" : " ").append(laying);
                    }
                    int sure = Check.told(deals.toString()).sure(n);
                    if (sure >= 0 && rows[sure]++ == 0) {
                        first[sure] = layings.toString();
                    }
                }
                dueRows(x, n, rows, first);
                for (int place = 0; place < 6; place++) {
                    fewest[place] = fewest[place] < 0 && rows[place] > 0 ? n : fewest[place];
                }
            }
            of(13, "FEWEST DEALS for a place: the least n of 1 to 5 by which there is one.");
            for (int place = 0; place < x.count(0); place++) {
                int p = place;
                due(text + " fewest(" + p + ")", fewest[p], () -> x.fewest(p));
            }
            of(11, "LAYINGS, one of each, by which all places have that END: how many such rows; the first.");
        }
    }

    private void dueRows(PileTricks x, int n, int[] rows, String[] first) {
        for (int place = 0; place < x.count(0); place++) {
            int p = place;
            due(p + " by " + n + " of three deals going round", rows[p], () -> x.wished(p, n));
            if (rows[p] > 0) {
                dueRow(p + " by " + n + ": the first", first[p], () -> kept(x, n));
            }
        }
    }

    private static String kept(PileTricks x, int n) {
        int[] row = new int[n];
        for (int i = 0; i < n; i++) {
            row[i] = x.laying(i);
        }
        return joined(row);
    }

    private void wishedKept() {
        of(12, "NoSuchElementException: none is kept");
        for (int i : new int[] {0, 1, 4, 5, -1, LEAST, MOST}) {
            PileTricks x = Check.told(SMALL);
            dueThrow("new, laying(" + i + ")", NO_SUCH, () -> x.laying(i));
            due("none found", 0, () -> x.wished(0, 1));
            dueUnchanged("none found, laying(" + i + ")", thrown(NO_SUCH), x, () -> x.laying(i));
        }
        of(12, "there is none.");
        for (int n = 1; n <= 5; n++) {
            PileTricks x = Check.told("cards 2;heaps 2;");
            due("a row of five", 16, () -> x.wished(1, 5));
            int deals = n;
            due("a row of " + n, 1 << n - 1, () -> x.wished(1, deals));
            due("its last", 1, () -> x.laying(deals - 1));
            for (int i : new int[] {n, n + 1, 5, -1, LEAST, MOST}) {
                dueUnchanged("a row of " + n + ", laying(" + i + ")", thrown(NO_SUCH), x, () -> x.laying(i));
            }
        }
        of(11, "the first is kept, if there is one.");
        PileTricks x = new PileTricks();
        due("found", 1, () -> x.wished(0, 3));
        dueRow("kept", "0 2 0", () -> kept(x, 3));
        due("none found", 0, () -> x.wished(1, 2));
        dueRow("kept still", "0 2 0", () -> kept(x, 3));
        dueThrow("and no more", NO_SUCH, () -> x.laying(3));
        due("another found", 1, () -> x.wished(13, 3));
        dueRow("kept in its place", "1 1 1", () -> kept(x, 3));
        due("by the table it stays", 9, () -> x.answer(0, 0, 0, 0));
        x.image();
        x.undo();
        x.restore();
        dueRow("kept behind restore()", "1 1 1", () -> kept(x, 3));
    }

    private void fewest() {
        of(13, "FEWEST DEALS for a place: the least n of 1 to 5 by which there is one.");
        for (int n = 1; n <= 5; n++) {
            int cards = 1 << n;
            PileTricks x = Check.told("cards " + cards + ";heaps 2;");
            for (int place = 0; place < cards; place++) {
                int p = place;
                due(cards + " cards, 2 heaps", x.count(0) == 2 ? 1 : n, () -> x.fewest(p));
            }
        }
        due("six in six heaps", 1, () -> Check.told("cards 6;heaps 6;").fewest(5));
        due("sixty in six heaps", 3, () -> Check.told("cards 60;heaps 6;").fewest(0));
        of(13, "NONE: none up to 5.");
        due("33 cards, 2 heaps", -1, () -> Check.told("cards 33;heaps 2;").fewest(0));
        due("64 by six would do, but 60 by five", -1, () -> Check.told("cards 60;heaps 2;").fewest(59));
        of(13, "(Nothing is kept.)");
        PileTricks x = Check.told(SMALL);
        dueUnchanged("none is kept", Integer.toString(x.fewest(0)), x, () -> x.fewest(0));
        PileTricks y = new PileTricks();
        y.wished(0, 3);
        due("fewest", 3, () -> y.fewest(26));
        dueRow("what was kept stays", "0 2 0", () -> kept(y, 3));
        of(13, "no such place (as everywhere)");
        for (int place : NO_PLACES) {
            PileTricks small = Check.told(SMALL);
            dueUnchanged("fewest(" + place + ")", thrown(NO_SUCH), small, () -> small.fewest(place));
        }
    }

    private void always() {
        of(14, "after how many such DEALS (1 or more) all CARDS lie as at first");
        for (int heaps = 2; heaps <= 6; heaps++) {
            PileTricks x = Check.told("cards 60;heaps " + heaps + ";");
            for (int heap = 0; heap < heaps; heap++) {
                int h = heap;
                due("runs laid as they lay", 1, () -> x.always(2, 0, h, h));
                due("runs turned over", 2, () -> x.always(2, 1, h, h));
            }
            int deals = heaps;
            due("the first run below", deals, () -> x.always(2, 0, deals - 1, 0));
        }
        due("two cards", 1, () -> Check.told("cards 2;heaps 2;").always(0, 0, 0, 0));
        due("two cards swapped", 2, () -> Check.told("cards 2;heaps 2;").always(0, 0, 0, 1));
        due("52 cards", 52, () -> Check.told("cards 52;heaps 2;").always(0, 0, 0, 1));
        due("52 cards, the other heap", 8, () -> Check.told("cards 52;heaps 2;").always(0, 0, 0, 0));
        largeAlways();
        of(14, "IllegalArgumentException: KIND, SIDE, LAYING, HEAP are not as told.");
        int[][] wrong = {{-1, 0, 0, 0}, {3, 0, 0, 0}, {0, -1, 0, 0}, {0, 2, 0, 0}, {0, 0, -1, 0}, {0, 0, 2, 0}, {0, 0, 0, -1},
            {0, 0, 0, 2}, {MOST, 0, 0, 0}, {LEAST, 0, 0, 0}, {0, MOST, 0, 0}, {0, LEAST, 0, 0}, {0, 0, MOST, 0},
            {0, 0, LEAST, 0}, {0, 0, 0, MOST}, {0, 0, 0, LEAST}, {3, 2, 2, 2}};
        for (int[] w : wrong) {
            PileTricks x = Check.told(SMALL);
            dueUnchanged("always of " + joined(w), thrown(ILLEGAL), x, () -> x.always(w[0], w[1], w[2], w[3]));
        }
        due("the last of each", 1, () -> Check.told("cards 6;heaps 6;").always(2, 1, 5, 5));
        of(14, "all CARDS lie as at first");
        PileTricks x = Check.told(SMALL);
        x.answer(0, 0, 1, 0);
        dueUnchanged("whatever lies at the table", "4", x, () -> x.always(0, 0, 0, 0));
    }

    /** The pack really dealt, again and again, until it lies as at first. */
    private void largeAlways() {
        long most = 0;
        for (int cards = 55; cards <= 60; cards++) {
            PileTricks x = Check.told("cards " + cards + ";heaps 5;deal fro over at 2;");
            int[] to = new int[cards];
            for (int place = 0; place < cards; place++) {
                to[place] = x.goes(place, 0, 3);
            }
            int[] now = new int[cards];
            for (int place = 0; place < cards; place++) {
                now[place] = place;
            }
            long deals = 0;
            boolean asAtFirst = false;
            while (!asAtFirst) {
                deals++;
                asAtFirst = true;
                for (int card = 0; card < cards; card++) {
                    now[card] = to[now[card]];
                    asAtFirst &= now[card] == card;
                }
            }
            long due = deals;
            most = Math.max(most, due);
            due(cards + " cards, fro over, 3 laid 2", due, () -> x.always(1, 1, 2, 3));
        }
        check.dueTrue("many rounds of different lengths", most > 1000);
    }

    private void two() {
        of(15, "where both end by n DEALS");
        due("none", 59 * 60 + 58, () -> Check.told("cards 60;").two(59, 58, 0));
        PileTricks pair = Check.told("cards 2;heaps 2;deal turn under at 0;");
        due("none, of two", 60, () -> pair.two(1, 0, 0));
        for (int n = 1; n <= 60; n++) {
            int deals = n;
            due("the first one on top", 1, () -> pair.two(1, 0, deals));
            due("the first one on top again", 1, () -> pair.two(0, 1, deals));
        }
        of(15, "by each DEAL the HEAP of the first one is laid by its LAYING, and that of the second one, if it is another one, right behind it");
        PileTricks x = Check.told("cards 8;heaps 4;deal turn under at 1;");
        due("in one heap, laid as one", 60 * 2 + 3, () -> x.two(3, 7, 1));
        due("in one heap, the lower one first", 60 * 3 + 2, () -> x.two(7, 3, 1));
        due("the second's heap is ahead", 60 * 2 + 4, () -> x.two(3, 0, 1));
        due("the second's heap is behind", 60 * 2 + 4, () -> x.two(0, 3, 1));
        due("side by side", 60 * 3 + 5, () -> x.two(5, 6, 1));
        PileTricks own = Check.told("cards 8;heaps 4;deal turn under at named;");
        due("by the first one's laying, not the second's", 0 + 2, () -> own.two(0, 3, 1));
        due("by the first one's laying, the other way", 60 * 4 + 6, () -> own.two(3, 0, 1));
        of(15, "where not so many others are, above both as many as there are");
        PileTricks two = Check.told("cards 4;heaps 2;deal turn under at 1;");
        due("2 heaps, laid 1, no others", 0 + 2, () -> two.two(0, 1, 1));
        due("2 heaps, laid 1, no others, the other way", 0 + 2, () -> two.two(1, 0, 1));
        due("2 heaps, laid 1, in one heap", 60 * 2 + 3, () -> two.two(0, 2, 1));
        PileTricks three = Check.told("cards 6;heaps 3;deal turn under at 2;");
        due("3 heaps, laid 2, one other", 60 * 2 + 4, () -> three.two(0, 2, 1));
        due("3 heaps, laid 2, in one heap", 60 * 4 + 5, () -> three.two(0, 3, 1));
        PileTricks six = Check.told("cards 6;heaps 6;deal turn under at 5;");
        due("6 heaps, laid 5, four others", 60 * 4 + 5, () -> six.two(5, 0, 1));
        PileTricks fits = Check.told("cards 6;heaps 6;deal turn under at 4;");
        due("6 heaps, laid 4, four others", 60 * 4 + 5, () -> fits.two(0, 1, 1));
        PileTricks fewer = Check.told("cards 6;heaps 6;deal turn under at 3;");
        due("6 heaps, laid 3, four others", 60 * 3 + 4, () -> fewer.two(0, 1, 1));
        of(15, "THE DEALS, for more of them than there are, go round");
        PileTricks round = Check.told("cards 6;heaps 3;deal turn under at 1;deal run over at 0;deal fro under at 2;");
        int[] after = {60 * 2 + 4, 60 * 2 + 5, 60 + 2};
        for (int n = 1; n <= 60; n++) {
            int deals = n;
            due("two(0, 5, " + n + ")", after[n % 3], () -> round.two(0, 5, deals));
        }
    }

    private void twoRefused() {
        of(15, "no such place (as everywhere)");
        for (int place : NO_PLACES) {
            PileTricks x = Check.told(SMALL);
            dueUnchanged("two(" + place + ", 0, 1)", thrown(NO_SUCH), x, () -> x.two(place, 0, 1));
            dueThrow("two(0, " + place + ", 1)", NO_SUCH, () -> x.two(0, place, 1));
        }
        of(15, "IllegalArgumentException (behind NoSuchElementException): also both places are one.");
        for (int place = 0; place < 5; place++) {
            int p = place;
            PileTricks x = Check.told(SMALL);
            dueUnchanged("two(" + p + ", " + p + ", 1)", thrown(ILLEGAL), x, () -> x.two(p, p, 1));
            dueThrow("two(" + p + ", " + p + ", 0)", ILLEGAL, () -> x.two(p, p, 0));
        }
        for (int n : NO_ENDS) {
            PileTricks x = Check.told(SMALL);
            dueUnchanged("two(0, 1, " + n + ")", thrown(ILLEGAL), x, () -> x.two(0, 1, n));
            dueThrow("two(5, 1, " + n + ")", NO_SUCH, () -> x.two(5, 1, n));
            dueThrow("two(1, 5, " + n + ")", NO_SUCH, () -> x.two(1, 5, n));
        }
        dueThrow("both places are one that isn't", NO_SUCH, () -> Check.told(SMALL).two(5, 5, 1));
        dueThrow("both places are -1", NO_SUCH, () -> Check.told(SMALL).two(-1, -1, 61));
    }

    private void worst() {
        of(16, "WORST of n DEALS (0 to 6)");
        int[] left = {27, 9, 3, 1, 1, 1, 1};
        for (int n = 0; n <= 6; n++) {
            int deals = n;
            due("worst(" + n + ")", left[n], () -> new PileTricks().worst(deals));
        }
        of(16, "names HEAPS, LIES times falsely at most (as told)");
        int[][] withLies = {{20, 5, 5, 5, 5, 5, 5}, {20, 20, 10, 5, 5, 5, 5}, {20, 20, 20, 15, 10, 5, 5}};
        for (int lies = 0; lies < 3; lies++) {
            PileTricks x = Check.told("lies " + lies + ";cards 20;heaps 4;deal run under at named;");
            for (int n = 0; n <= 6; n++) {
                int deals = n;
                due(lies + " lies, worst(" + n + ")", withLies[lies][n], () -> x.worst(deals));
            }
        }
        worstByAnswers("cards 5;heaps 2;deal run under at 0;", 6);
        worstByAnswers("cards 60;heaps 2;lies 2;deal turn over at named+1;deal fro under at 0;", 6);
        worstByAnswers("cards 7;heaps 3;deal turn over at 1;deal fro under at named*2;", 5);
        worstByAnswers("cards 20;heaps 3;lies 1;deal fro over at size;deal turn under at 0;deal run over at deal;", 5);
        worstByAnswers("cards 5;heaps 4;deal fro under at 2;", 3);
        worstByAnswers("cards 31;heaps 5;lies 2;deal fro over at named;deal turn over at 4;", 3);
        worstByAnswers("cards 60;heaps 6;lies 1;deal turn under at named/2;deal run over at 5;", 3);
        of(16, "SPENT: HEAPS to the power of n are more than 5000.");
        for (int heaps = 2; heaps <= 6; heaps++) {
            PileTricks x = Check.told("cards 60;heaps " + heaps + ";deal run under at named;");
            for (int n = 0; n <= 6; n++) {
                int deals = n;
                int due = Math.pow(heaps, n) > 5000 ? -2 : n == 0 ? 60 : 60 / heaps;
                due(heaps + " heaps, worst(" + n + ")", due, () -> x.worst(deals));
            }
        }
        of(16, "n (as everywhere)");
        for (int n : new int[] {-1, 7, LEAST, MOST}) {
            PileTricks x = Check.told(SMALL);
            dueUnchanged("worst(" + n + ")", thrown(ILLEGAL), x, () -> x.worst(n));
            dueThrow("6 heaps, worst(" + n + ")", ILLEGAL, () -> Check.told("heaps 6;").worst(n));
        }
        PileTricks x = Check.told(SMALL);
        x.answer(0, 0, 1, 0);
        dueUnchanged("whatever lies at the table", "5", x, () -> x.worst(1));
    }

    /** All rows of names given as answers at a table, dealt as told. */
    private void worstByAnswers(String text, int mostDeals) {
        PileTricks told = Check.told(text);
        int heaps = told.count(1);
        int dealsTold = told.count(2);
        int rows = 1;
        for (int n = 0; n <= mostDeals; n++) {
            int most = 0;
            for (int row = 0; row < rows; row++) {
                PileTricks table = Check.told(text);
                int names = row;
                for (int i = 0; i < n; i++) {
                    int deal = i % dealsTold;
                    int named = names % heaps;
                    table.answer(table.told(deal, named, 0), table.told(deal, named, 1), table.told(deal, named, 2), named);
                    names /= heaps;
                }
                most = Math.max(most, table.count(6));
            }
            int deals = n;
            due(text + " worst(" + n + ")", most, () -> Check.told(text).worst(deals));
            rows *= heaps;
        }
    }
}
