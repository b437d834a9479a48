import java.util.NoSuchElementException;
import java.util.function.Supplier;

/**
 * What the tests of boundary cases share. Each of them takes one sentence of ../shared/DOC.md at a time, with
 * the number of the promise that it belongs to; a wrong answer is printed with both.
 */
abstract class Boundaries {
    static final Class<NoSuchElementException> NO_SUCH = NoSuchElementException.class;
    static final Class<IllegalArgumentException> ILLEGAL = IllegalArgumentException.class;
    static final int LEAST = Integer.MIN_VALUE;
    static final int MOST = Integer.MAX_VALUE;

    final Check check = new Check();
    private String sentence = "";

    void of(int promise, String words) {
        sentence = "promise " + promise + ", '" + words + "': ";
    }

    void due(String what, long want, Check.Call call) {
        check.due(sentence + what, want, call);
    }

    void dueThrow(String what, Class<? extends RuntimeException> want, Check.Call call) {
        check.dueThrow(sentence + what, want, call);
    }

    void dueRow(String what, String want, Supplier<String> row) {
        check.dueRow(sentence + what, want, row);
    }

    /** A text's FAULT, its place, and that it is counted. */
    void fault(String text, int number, int place) {
        PileTricks x = new PileTricks();
        due("'" + text + "'", number, () -> Check.trick(x, text));
        due("'" + text + "' fault()", place, x::fault);
        due("'" + text + "' count(8)", number == 0 ? 0 : 1, () -> x.count(8));
    }

    void good(String text) {
        fault(text, 0, -1);
    }

    /** The fault of a rule, its place counted from the rule's first byte. */
    void ruleFault(String rule, int number, int place) {
        fault("deal turn over at " + rule, number, 18 + place);
    }

    void goodRule(String rule) {
        good("deal turn over at " + rule + ";");
    }

    /** What a rule gives: asked with 2 to 6 heaps, so that more than one rest tells it. */
    void gives(String rule, int value) {
        for (int heaps = 2; heaps <= 6; heaps++) {
            int rest = Math.floorMod(value, heaps);
            PileTricks x = Check.told("cards 60;heaps " + heaps + ";deal turn under at " + rule + ";");
            due(rule + " MOD " + heaps, rest, () -> x.told(0, 0, 2));
        }
    }

    /** A call that answers so, or throws so, and leaves all as it was. */
    void dueUnchanged(String what, String want, PileTricks x, Check.Call call) {
        String before = whole(x);
        check.dueText(sentence + what, want, call);
        dueRow(what + " leaves all as it was", before, () -> whole(x));
    }

    static String thrown(Class<? extends RuntimeException> one) {
        return "throws." + one.getSimpleName();
    }

    static String whole(PileTricks x) {
        return state(x) + ", tape " + x.count(7) + ", status " + x.count(8) + " " + x.count(9) + ", fault " + x.fault();
    }

    /** What was told, what lies at the table, what was found: all that can be seen without a change. */
    static String state(PileTricks x) {
        StringBuilder all = new StringBuilder("told");
        for (int what = 0; what < 5; what++) {
            all.append(' ').append(x.count(what));
        }
        for (int i = 0; i < x.count(2) * x.count(1); i++) {
            int deal = i / x.count(1);
            int named = i % x.count(1);
            all.append(' ').append(x.told(deal, named, 0)).append(x.told(deal, named, 1)).append(x.told(deal, named, 2));
        }
        all.append(", found");
        for (int i = 0; i < 5; i++) {
            int which = i;
            all.append(' ').append(Check.outcome(() -> x.laying(which)));
        }
        return all + ", " + table(x);
    }

    static String table(PileTricks x) {
        StringBuilder falses = new StringBuilder();
        for (int card = 0; card < x.count(0); card++) {
            falses.append(' ').append(x.lies(card));
        }
        return "pack " + pack(x) + ", lies" + falses + ", answers " + x.count(5) + ", fits " + x.fits()
            + ", between " + x.between(0) + " " + x.between(1);
    }

    static String pack(PileTricks x) {
        int[] row = new int[x.count(0)];
        for (int place = 0; place < row.length; place++) {
            row[place] = x.card(place);
        }
        return joined(row);
    }

    /** The pack, at first in order, as a deal leaves it by what goes() says of each place. */
    static String gone(PileTricks x, int i, int named) {
        int[] row = new int[x.count(0)];
        for (int place = 0; place < row.length; place++) {
            row[x.goes(place, i, named)] = place;
        }
        return joined(row);
    }

    static String joined(int[] row) {
        StringBuilder text = new StringBuilder();
        for (int i = 0; i < row.length; i++) {
            text.append(i == 0 ? "" : " ").append(row[i]);
        }
        return text.toString();
    }
}
