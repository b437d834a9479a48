import java.util.ArrayList;
import java.util.List;
import java.util.NoSuchElementException;

/** Promise by promise: ordinary inputs, the edges that the document names, wrong inputs. */
public final class PromiseTest {
    private static final String SMALL =
        "cards 5;heaps 2;deal turn under at 0;deal fro over at 1;deal run under at named;";
    private static final Class<NoSuchElementException> NO_SUCH = NoSuchElementException.class;
    private static final Class<IllegalArgumentException> ILLEGAL = IllegalArgumentException.class;

    private final Check check = new Check();

    public static void main(String[] args) {
        PromiseTest test = new PromiseTest();
        test.newObject();
        test.feed();
        test.trick();
        test.fault();
        test.faultsOfRules();
        test.count();
        test.told();
        test.values();
        test.goes();
        test.end();
        test.sureAndSoonest();
        test.wished();
        test.fewest();
        test.always();
        test.two();
        test.worst();
        test.answerAndCard();
        test.undo();
        test.liesAndFits();
        test.seeAndBetween();
        test.evenings();
        test.weighings();
        test.imageAndRestore();
        test.check.close("PromiseTest");
    }

    // 1
    private void newObject() {
        PileTricks x = new PileTricks();
        int[] counts = {27, 3, 0, 0, 0, 0, 27, 0, 0, 0};
        for (int what = 0; what < counts.length; what++) {
            int w = what;
            check.due("new: count " + w, counts[w], () -> x.count(w));
        }
        check.due("NONE", -1, () -> PileTricks.NONE);
        check.due("new: fault", -1, x::fault);
        check.due("new: card", 26, () -> x.card(26));
        check.due("new: undo", -1, x::undo);
        check.due("new: restore", 0, () -> x.restore() ? 1 : 0);
        check.due("new: fits", (1L << 27) - 1, x::fits);
        check.due("new: between", 3, () -> x.between(0));
        check.due("new: between first", 2 * 216, () -> x.between(1));
        check.dueThrow("new: laying", NO_SUCH, () -> x.laying(0));
        check.dueThrow("new: told", NO_SUCH, () -> x.told(0, 0, 0));
    }

    // 2
    private void feed() {
        PileTricks x = new PileTricks();
        for (int i = 1; i <= 25; i++) {
            check.due("feed", 20 * i, () -> x.feed(0, 0, 0, 0, 0));
        }
        check.due("feed over 500", -1, () -> x.feed(0, 0, 0, 0, 0));
        check.due("feed over 500: count", 500, () -> x.count(7));
        check.due("a text of 500 zeros", 1, () -> x.trick(500));
        check.due("feed: emptied", 0, () -> x.count(7));
        check.due("feed again", 20, () -> x.feed(0x63617264, 0x7320353b, 0x68656170, 0x7320323b, -1));
        check.due("feed: highest byte first", 0, () -> x.trick(16));
        check.due("feed: cards", 5, () -> x.count(0));
        check.due("feed: heaps", 2, () -> x.count(1));
        x.feed(-1, 0, 0, 0, 0);
        check.due("feed: a byte above 127", 1, () -> x.trick(1));
        StringBuilder longest = new StringBuilder("cards 5;heaps 2;");
        while (longest.length() < 500) {
            longest.append(longest.length() % 2 == 0 ? ' ' : '\n');
        }
        check.due("a text of 500 bytes", 0, () -> Check.trick(x, longest.toString()));
    }

    // 3
    private void trick() {
        PileTricks x = Check.told(SMALL);
        x.answer(0, 0, 0, 0);
        x.see();
        x.image();
        x.answer(0, 0, 0, 0);
        x.feed(0x63617264, 0x73203920, 0, 0, 0);
        check.dueThrow("trick(-1)", ILLEGAL, () -> x.trick(-1));
        check.dueThrow("trick(21)", ILLEGAL, () -> x.trick(21));
        check.dueThrow("trick(least)", ILLEGAL, () -> x.trick(Integer.MIN_VALUE));
        check.due("trick that throws: tape", 20, () -> x.count(7));
        check.due("trick that throws: status", 0, () -> x.count(8));
        check.due("trick with a fault", 1, () -> x.trick(8));
        check.due("trick with a fault: tape", 0, () -> x.count(7));
        check.due("trick with a fault: status", 1, () -> x.count(8));
        check.due("trick with a fault: cards stay", 5, () -> x.count(0));
        check.due("trick with a fault: deals stay", 3, () -> x.count(2));
        check.due("trick with a fault: answers stay", 2, () -> x.count(5));
        check.due("trick with a fault: the image stays", 1, () -> x.restore() ? 1 : 0);
        check.due("trick with a fault: that image", 1, () -> x.count(5));
        check.due("trick anew", 0, () -> Check.trick(x, "cards 4;heaps 2;deal run under at 0;"));
        check.due("trick anew: answers", 0, () -> x.count(5));
        check.due("trick anew: image", 0, () -> x.restore() ? 1 : 0);
        check.due("trick anew: seen", 2, () -> x.between(0));
        check.dueRow("trick anew: pack", "0 1 2 3", () -> pack(x));
        check.due("trick anew: status", 1, () -> x.count(8));
        check.due("trick anew: fits", 15, x::fits);
        trickForgetsWhatWasFound();
    }

    private void trickForgetsWhatWasFound() {
        PileTricks x = new PileTricks();
        x.wished(13, 3);
        check.due("what was found", 1, () -> x.laying(0));
        check.due("a fault", 1, () -> Check.trick(x, ";"));
        check.due("what was found stays", 1, () -> x.laying(0));
        Check.trick(x, "lies 2;wish 5;deal fro under at 1;");
        check.dueThrow("what was found is gone", NO_SUCH, () -> x.laying(0));
        check.due("an empty text", 0, () -> x.trick(0));
        int[] counts = {27, 3, 0, 0, 0};
        for (int what = 0; what < counts.length; what++) {
            int w = what;
            check.due("an empty text: count " + w, counts[w], () -> x.count(w));
        }
        x.feed(0x3b3b3b3b, 0, 0, 0, 0);
        check.due("no byte of a longer tape", 0, () -> x.trick(0));
        check.due("a longer tape is empty then", 0, () -> x.count(7));
    }

    private void text(String text, int fault, int place) {
        PileTricks x = new PileTricks();
        check.due("'" + text + "'", fault, () -> Check.trick(x, text));
        check.due("'" + text + "' place", place, x::fault);
        check.due("'" + text + "' status", fault == 0 ? 0 : 1, () -> x.count(8));
    }

    private void good(String text) {
        text(text, 0, -1);
    }

    // 4
    private void fault() {
        for (String text : List.of("", " \n ", "cards 2;heaps 2;", "heaps 2;cards 2;", "cards 60;heaps 6;", "lies 0;",
                "lies 2;", "wish 0;", "wish 59;", "cards 0002;heaps 0002;", "cards5;heaps2;", "cards\n5\n;", "wish 0000;")) {
            good(text);
        }
        text("cards 1;", 2, 6);
        text("cards 61;", 2, 6);
        text("cards 00005;", 2, 6);
        text("cards 99999999999;", 2, 6);
        text("heaps 1;", 2, 6);
        text("heaps 7;", 2, 6);
        text("lies 3;", 2, 5);
        text("wish 60;", 2, 5);
        text("wish 60", 2, 5);
        text("cards 2;", 5, 8);
        text("heaps 5;cards 4;", 5, 16);
        text("heaps 5;cards 4; \n", 5, 18);
        text("heaps 5;cards 4", 1, 15);
        text("cards", 1, 5);
        text("cards  ", 1, 7);
        text("cards 5", 1, 7);
        text("cards;", 1, 5);
        text("cards cards;", 1, 6);
        text("cards 5;cards", 4, 8);
        text("lies 1;lies 1;", 4, 7);
        text("wish 1; wish 2;", 4, 8);
        text("heaps 3;heaps 9;", 4, 8);
        text(";", 1, 0);
        text("5;", 1, 0);
        text("12345;", 1, 0);
        text("Cards 5;", 1, 0);
        text("cardss 5;", 1, 0);
        text("bards 5;", 1, 0);
        text("cardt 5;", 1, 0);
        text("not;", 1, 0);
        text("cards\t5;", 1, 5);
        text("cards 5:", 1, 7);
        text("cards 5;;", 1, 8);
        text("cards 5;\u00e9", 1, 8);
        text("cards 5 \u0000;", 1, 8);
        text("cards 99 \u0000;", 2, 6);
        PileTricks x = new PileTricks();
        Check.trick(x, "cards 5:");
        Check.trick(x, "cards 5;");
        check.due("fault behind a good text", -1, x::fault);
    }

    private void rule(String rule, int fault, int place) {
        text("deal turn over at " + rule, fault, fault == 0 ? -1 : 18 + place);
    }

    private void faultsOfRules() {
        text("deal", 1, 4);
        text("deal turn", 1, 9);
        text("deal turn over", 1, 14);
        text("deal turn over at", 1, 17);
        text("deal over turn at 1;", 1, 5);
        text("deal turn turn at 1;", 1, 10);
        text("deal turn over on 1;", 1, 15);
        text("deal 1;", 1, 5);
        for (String rule : List.of("1;", "(1<2)<3;", "1<2 and 3<4;", "not 1<2;", "(((((1)))));", "not(1)and(2)or(3);",
                "not not not not not not 1;", "not not not not not not(not 1);", "not not not not not not 1 and not 1;",
                "deal+wish*heaps/cards-named=size;", "9999;", "(not not not not not not 1)<1;")) {
            rule(rule, 0, 0);
        }
        rule("1", 1, 1);
        rule("at;", 3, 0);
        rule("or 1;", 3, 0);
        rule("lies;", 3, 0);
        rule("named+pile;", 3, 6);
        rule("1+not 1;", 3, 2);
        rule("1<not 1;", 3, 2);
        rule("not or;", 3, 4);
        rule("1 and and 1;", 3, 6);
        rule("1<2<3;", 1, 3);
        rule("1=2=3;", 1, 3);
        rule("not 1<2=3;", 1, 7);
        rule("1<(2<3)<4;", 1, 7);
        rule("1 2;", 1, 2);
        rule("1 12345;", 1, 2);
        rule("12345;", 2, 0);
        rule("1+00001;", 2, 2);
        rule("1 wish;", 1, 2);
        rule("1 not;", 1, 2);
        rule("-1;", 1, 0);
        rule("();", 1, 1);
        rule("1);", 1, 1);
        rule("(1;", 1, 2);
        rule("(1", 1, 2);
        rule("1+;", 1, 2);
        rule("1 and;", 1, 5);
        rule("1(2);", 1, 1);
        rule("1>2;", 1, 1);
        rule("((((((1))))));", 2, 6);
        rule("((((((pile", 2, 6);
        rule("((((((12345", 2, 6);
        rule("((((((not", 2, 6);
        rule("(((((((", 2, 6);
        rule("((((((", 1, 6);
        rule("(((((()", 1, 6);
        rule("((((((+", 1, 6);
        rule("1+(((((1+(2", 2, 10);
        rule("not not not not not not not 1;", 2, 24);
        rule("not not not not not not pile;", 3, 24);
        rule("(not not not not not not not", 2, 25);
        String eight = "deal run over at 1;".repeat(8);
        good(eight);
        good(eight + "cards 5;");
        text(eight + "deal", 2, 152);
        text(eight + " \ndeal run over at 1;", 2, 154);
        text(eight + "dealt", 1, 152);
    }

    // 5
    private void count() {
        PileTricks x = Check.told("cards 9;wish 8;deal turn under at 1;lies 2;heaps 4;deal fro under at 1;");
        int[] counts = {9, 4, 2, 2, 8, 1, 9, 20, 1, 2};
        x.answer(0, 0, 0, 0);
        x.answer(3, 0, 0, 0);
        x.answer(0, 0, 0, 4);
        Check.trick(x, "cards");
        x.feed(0, 0, 0, 0, 0);
        for (int what = 0; what < counts.length; what++) {
            int w = what;
            check.due("count " + w, counts[w], () -> x.count(w));
        }
        check.dueThrow("count(-1)", NO_SUCH, () -> x.count(-1));
        check.dueThrow("count(10)", NO_SUCH, () -> x.count(10));
    }

    // 6
    private void told() {
        PileTricks x = Check.told(SMALL);
        int[][] due = {{0, 0, 0, 0}, {1, 1, 1, 1}, {2, 0, 0, 1}};
        for (int i = 0; i < due.length; i++) {
            int deal = i;
            check.due("told kind", due[i][0], () -> x.told(deal, 0, 0));
            check.due("told side", due[i][1], () -> x.told(deal, 1, 1));
            check.due("told laying of 0", due[i][2], () -> x.told(deal, 0, 2));
            check.due("told laying of 1", due[i][3], () -> x.told(deal, 1, 2));
        }
        check.dueThrow("told deal -1", NO_SUCH, () -> x.told(-1, 0, 0));
        check.dueThrow("told deal 3", NO_SUCH, () -> x.told(3, 0, 0));
        check.dueThrow("told heap -1", NO_SUCH, () -> x.told(0, -1, 2));
        check.dueThrow("told heap 2, whatever is asked", NO_SUCH, () -> x.told(0, 2, 0));
        check.dueThrow("told what -1", NO_SUCH, () -> x.told(0, 0, -1));
        check.dueThrow("told what 3", NO_SUCH, () -> x.told(0, 0, 3));
    }

    private void gives(String rule, int value) {
        PileTricks x = Check.told("cards 60;heaps 6;deal turn under at " + rule + ";");
        check.due(rule, Math.floorMod(value, 6), () -> x.told(0, 0, 2));
    }

    private void values() {
        gives("7-9", -2);
        gives("9-2-1", 6);
        gives("8/4/2", 1);
        gives("9/2*2", 8);
        gives("1+3*4", 13);
        gives("(1+3)*4", 16);
        gives("7/0", 0);
        gives("(0-7)/2", -3);
        gives("9999*9999*9999*9999", 9999 * 9999 * 9999 * 9999);
        gives("(0-2)*8192*8192*16/(0-1)", Integer.MIN_VALUE);
        gives("not 0", 1);
        gives("not 5", 0);
        gives("not not 5", 1);
        gives("5 and 3", 1);
        gives("5 and 0", 0);
        gives("0 or 4", 1);
        gives("0 or 0", 0);
        gives("1 or 0 and 0", 1);
        gives("not 0 and 0", 0);
        gives("not 1=2", 1);
        gives("not 2-2", 1);
        gives("1<2", 1);
        gives("2<2", 0);
        gives("0-1<0", 1);
        gives("2+2=4", 1);
        gives("2*(3=2+1)+(not 1<0)", 3);
        gives("0=0 and 3<5 or 0", 1);
        gives("0012", 12);
        PileTricks x = Check.told("deal turn under at deal;deal fro under at size;deal run over at size+named;"
            + "deal turn over at wish;deal turn over at heaps+1;deal turn over at cards+2;deal turn over at deal;"
            + "heaps 4;cards 5;wish 7;");
        int[][] due = {{0, 0, 0, 0}, {1, 1, 1, 2}, {2, 2, 3, 0}, {3, 3, 3, 3}, {1, 1, 1, 1}, {3, 3, 3, 3}, {2, 2, 2, 2}};
        for (int i = 0; i < due.length * 4; i++) {
            int deal = i / 4;
            int named = i % 4;
            check.due("values: deal " + deal + ", heap " + named, due[deal][named], () -> x.told(deal, named, 2));
        }
    }

    /** The cards at places 0 on, by where goes() says that each place goes. */
    private static String goesAll(PileTricks x, int i, int named) {
        int[] row = new int[x.count(0)];
        for (int p = 0; p < row.length; p++) {
            row[x.goes(p, i, named)] = p;
        }
        return joined(row);
    }

    private static String pack(PileTricks x) {
        int[] row = new int[x.count(0)];
        for (int p = 0; p < row.length; p++) {
            row[p] = x.card(p);
        }
        return joined(row);
    }

    private static String joined(int[] row) {
        List<String> words = new ArrayList<>();
        for (int one : row) {
            words.add(Integer.toString(one));
        }
        return String.join(" ", words);
    }

    // 7
    private void goes() {
        PileTricks x = Check.told(SMALL);
        check.dueRow("goes: turn under, 0 laid 0", "0 2 4 1 3", () -> goesAll(x, 0, 0));
        check.dueRow("goes: turn under, 1 laid 0", "1 3 0 2 4", () -> goesAll(x, 0, 1));
        check.dueRow("goes: fro over, 0 laid 1", "2 1 4 3 0", () -> goesAll(x, 1, 0));
        check.dueRow("goes: fro over, 1 laid 1", "4 3 0 2 1", () -> goesAll(x, 1, 1));
        check.dueRow("goes: run under, 1 laid 1", "0 1 2 3 4", () -> goesAll(x, 2, 1));
        check.dueRow("goes: round", "0 2 4 1 3", () -> goesAll(x, 3, 0));
        check.due("goes: far round", 2, () -> x.goes(4, Integer.MAX_VALUE, 0));
        PileTricks four = Check.told("cards 9;heaps 4;deal run over at 2;deal fro under at named+deal;");
        check.dueRow("goes: 0 laid 2 of 4", "4 3 6 5 2 1 0 8 7", () -> goesAll(four, 0, 0));
        check.dueRow("goes: 3 laid 2 of 4", "2 1 0 4 3 8 7 6 5", () -> goesAll(four, 0, 3));
        check.dueRow("goes: 3 laid 0 of 4", "3 4 0 7 8 1 6 2 5", () -> goesAll(four, 1, 3));
        check.dueRow("goes: the deal's number goes round too", "3 4 0 7 8 1 6 2 5", () -> goesAll(four, 3, 3));
        check.dueRow("goes: a trick without deals", "7 4 1 6 3 0 8 5 2", () -> goesAll(Check.told("cards 9;"), 5, 0));
        check.dueThrow("goes place -1", NO_SUCH, () -> x.goes(-1, 0, 0));
        check.dueThrow("goes place 5", NO_SUCH, () -> x.goes(5, 0, 0));
        check.dueThrow("goes i -1", NO_SUCH, () -> x.goes(0, -1, 0));
        check.dueThrow("goes heap -1", NO_SUCH, () -> x.goes(0, 0, -1));
        check.dueThrow("goes heap 2", NO_SUCH, () -> x.goes(0, 0, 2));
    }

    // 8
    private void end() {
        PileTricks x = Check.told(SMALL);
        // Deal 0 lays the card's own heap on top, deal 1 its own below, deal 2 leaves the pack as it is.
        int[] one = {0, 0, 1, 1, 2};
        int[] two = {4, 4, 4, 4, 3};
        for (int p = 0; p < 5; p++) {
            int place = p;
            check.due("end by 0", p, () -> x.end(place, 0));
            check.due("end by 1", one[p], () -> x.end(place, 1));
            check.due("end by 2", two[p], () -> x.end(place, 2));
            check.due("end by 3", two[p], () -> x.end(place, 3));
        }
        check.due("end by 60", 13, () -> new PileTricks().end(26, 60));
        check.dueThrow("end place", NO_SUCH, () -> x.end(5, 0));
        check.dueThrow("end place ahead of n", NO_SUCH, () -> x.end(-1, 61));
        check.dueThrow("end n -1", ILLEGAL, () -> x.end(0, -1));
        check.dueThrow("end n 61", ILLEGAL, () -> x.end(0, 61));
    }

    // 9, 10
    private void sureAndSoonest() {
        PileTricks x = new PileTricks();
        check.due("sure 0", -1, () -> x.sure(0));
        check.due("sure 2", -1, () -> x.sure(2));
        check.due("sure 3", 13, () -> x.sure(3));
        check.due("sure 60", 13, () -> x.sure(60));
        check.dueThrow("sure -1", ILLEGAL, () -> x.sure(-1));
        check.dueThrow("sure 61", ILLEGAL, () -> x.sure(61));
        check.due("soonest", 3, x::soonest);
        PileTricks first = Check.told("cards 2;heaps 2;deal turn under at 1;");
        check.due("soonest 1", 1, first::soonest);
        check.due("sure 1", 1, () -> first.sure(1));
        check.due("soonest: never", -1, Check.told("deal run under at named;")::soonest);
        String idle = "deal run under at named;".repeat(7);
        check.due("soonest: late", 32, Check.told("cards 16;heaps 2;" + idle + "deal turn under at 0;")::soonest);
        check.due("soonest: latest", 60, Check.told("cards 24;heaps 5;deal fro under at named+2;deal fro over at 4-named;"
            + "deal fro under at (2-named)*2;deal fro over at named+2;")::soonest);
        check.due("soonest: too late", -1, Check.told("cards 60;heaps 2;" + idle.substring(24)
            + "deal fro over at named;deal run under at named;")::soonest);
    }

    // 11, 12
    private void wished() {
        PileTricks x = new PileTricks();
        for (int p = 0; p < 27; p++) {
            int place = p;
            check.due("wished " + p, 1, () -> x.wished(place, 3));
            StringBuilder text = new StringBuilder();
            for (int i = 0; i < 3; i++) {
                text.append("deal turn over at ").append(x.laying(i)).append(";");
            }
            check.due("by those layings", p, () -> Check.told(text.toString()).sure(3));
        }
        check.dueThrow("laying 3 of 3", NO_SUCH, () -> x.laying(3));
        check.dueThrow("laying -1", NO_SUCH, () -> x.laying(-1));
        check.due("wished, none", 0, () -> x.wished(0, 2));
        check.dueRow("what was kept stays", "2 0 2", () -> rowKept(x, 3));
        check.due("wished by 4", 3, () -> x.wished(26, 4));
        check.dueRow("the first of three", "0 2 0 2", () -> rowKept(x, 4));
        check.dueThrow("wished place", NO_SUCH, () -> x.wished(27, 3));
        check.dueThrow("wished place ahead of n", NO_SUCH, () -> x.wished(-1, 0));
        check.dueThrow("wished n 0", ILLEGAL, () -> x.wished(0, 0));
        check.dueThrow("wished n 6", ILLEGAL, () -> x.wished(0, 6));
        check.due("and all that keeps it", 2, () -> x.laying(3));
        PileTricks other = Check.told("cards 4;heaps 2;deal turn under at 0;deal run under at 0;");
        check.due("wished by 5", 0, () -> other.wished(1, 1));
        check.dueThrow("none is kept", NO_SUCH, () -> other.laying(0));
        check.due("fewest keeps nothing", 3, () -> other.fewest(0));
        check.dueThrow("none is kept still", NO_SUCH, () -> other.laying(0));
    }

    private static String rowKept(PileTricks x, int n) {
        int[] row = new int[n];
        for (int i = 0; i < n; i++) {
            row[i] = x.laying(i);
        }
        return joined(row);
    }

    // 13
    private void fewest() {
        PileTricks x = new PileTricks();
        check.due("fewest", 3, () -> x.fewest(26));
        check.dueThrow("fewest place 27", NO_SUCH, () -> x.fewest(27));
        check.dueThrow("fewest place -1", NO_SUCH, () -> x.fewest(-1));
        check.due("fewest 1", 1, () -> Check.told("cards 6;heaps 6;").fewest(4));
        check.due("fewest 5", 5, () -> Check.told("cards 32;heaps 2;").fewest(0));
        check.due("fewest none", -1, () -> Check.told("cards 33;heaps 2;").fewest(0));
    }

    // 14
    private void always() {
        PileTricks x = Check.told("cards 52;heaps 2;");
        check.due("out shuffles undone", 8, () -> x.always(0, 0, 0, 0));
        check.due("in shuffles undone", 52, () -> x.always(0, 0, 0, 1));
        check.due("as it was", 1, () -> x.always(2, 0, 1, 1));
        check.due("cut in the middle", 2, () -> x.always(2, 0, 0, 1));
        check.dueThrow("always kind -1", ILLEGAL, () -> x.always(-1, 0, 0, 0));
        check.dueThrow("always kind 3", ILLEGAL, () -> x.always(3, 0, 0, 0));
        check.dueThrow("always side -1", ILLEGAL, () -> x.always(0, -1, 0, 0));
        check.dueThrow("always side 2", ILLEGAL, () -> x.always(0, 2, 0, 0));
        check.dueThrow("always laying -1", ILLEGAL, () -> x.always(0, 0, -1, 0));
        check.dueThrow("always laying 2", ILLEGAL, () -> x.always(0, 0, 2, 0));
        check.dueThrow("always heap -1", ILLEGAL, () -> x.always(0, 0, 0, -1));
        check.dueThrow("always heap 2", ILLEGAL, () -> x.always(0, 0, 0, 2));
        check.dueRow("always leaves the pack", "0 1 2 3 4", () -> {
            PileTricks small = Check.told(SMALL);
            small.always(1, 1, 1, 1);
            return pack(small);
        });
    }

    // 15
    private void two() {
        PileTricks x = Check.told("cards 8;heaps 4;deal turn under at 1;deal turn under at 3;");
        check.due("two in 0 deals", 60 * 3 + 7, () -> x.two(3, 7, 0));
        check.due("two in one heap", 60 * 2 + 3, () -> x.two(3, 7, 1));
        check.due("two, the second one's heap ahead", 60 * 2 + 4, () -> x.two(3, 0, 1));
        check.due("two, the other way", 60 * 2 + 4, () -> x.two(0, 3, 1));
        PileTricks y = Check.told("cards 8;heaps 4;deal turn over at 3;");
        check.due("two, not so many others", 60 * 5 + 7, () -> y.two(0, 1, 1));
        check.dueThrow("two first", NO_SUCH, () -> x.two(8, 0, 1));
        check.dueThrow("two second", NO_SUCH, () -> x.two(0, -1, 1));
        check.dueThrow("two places ahead of n", NO_SUCH, () -> x.two(8, 8, 61));
        check.dueThrow("two at one place", ILLEGAL, () -> x.two(3, 3, 1));
        check.dueThrow("two n -1", ILLEGAL, () -> x.two(3, 4, -1));
        check.dueThrow("two n 61", ILLEGAL, () -> x.two(3, 4, 61));
        PileTricks z = new PileTricks();
        check.dueTrue("two, far", z.two(0, 1, 60) >= 0);
    }

    // 16
    private void worst() {
        PileTricks x = new PileTricks();
        int[] left = {27, 9, 3, 1, 1, 1, 1};
        for (int i = 0; i < left.length; i++) {
            int n = i;
            check.due("worst " + n, left[n], () -> x.worst(n));
        }
        check.dueThrow("worst -1", ILLEGAL, () -> x.worst(-1));
        check.dueThrow("worst 7", ILLEGAL, () -> x.worst(7));
        PileTricks six = Check.told("cards 60;heaps 6;deal run under at named;");
        check.due("worst of six heaps", 10, () -> six.worst(4));
        check.due("worst: spent", -2, () -> six.worst(5));
        PileTricks five = Check.told("cards 60;heaps 5;deal run under at named;");
        check.due("worst of five heaps", 12, () -> five.worst(5));
        check.due("worst: spent, too", -2, () -> five.worst(6));
        check.due("worst of four heaps, six deals", 15, () -> Check.told("cards 60;heaps 4;deal run under at named;").worst(6));
        PileTricks one = Check.told("lies 1;cards 20;heaps 4;deal run under at named;");
        // Of one heap named always, or once another: 5 and 5 of the two may be it behind two deals.
        int[] withOne = {20, 20, 10, 5, 5};
        for (int i = 0; i < withOne.length; i++) {
            int n = i;
            check.due("worst with a lie " + n, withOne[n], () -> one.worst(n));
        }
        PileTricks two = Check.told("lies 2;cards 20;heaps 4;deal run under at named;");
        int[] withTwo = {20, 20, 20, 15, 10, 5};
        for (int i = 0; i < withTwo.length; i++) {
            int n = i;
            check.due("worst with two lies " + n, withTwo[n], () -> two.worst(n));
        }
    }

    // 17, 18
    private void answerAndCard() {
        PileTricks x = Check.told("cards 5;heaps 2;lies 1;");
        check.due("answer", 5, () -> x.answer(0, 0, 0, 0));
        check.dueRow("answer: turn under", "0 2 4 1 3", () -> pack(x));
        check.due("answer 2", 5, () -> x.answer(1, 1, 1, 0));
        check.dueRow("answer: fro over of that", "4 2 3 1 0", () -> pack(x));
        check.dueThrow("card -1", NO_SUCH, () -> x.card(-1));
        check.dueThrow("card 5", NO_SUCH, () -> x.card(5));
        int[][] wrong = {{-1, 0, 0, 0}, {3, 0, 0, 0}, {0, -1, 0, 0}, {0, 2, 0, 0}, {0, 0, -1, 0}, {0, 0, 2, 0},
            {0, 0, 0, -1}, {0, 0, 0, 2}};
        for (int i = 0; i < wrong.length; i++) {
            int[] w = wrong[i];
            int refused = i + 1;
            check.due("answer refused", -1, () -> x.answer(w[0], w[1], w[2], w[3]));
            check.due("answer refused: status", refused, () -> x.count(9));
        }
        check.dueRow("answer refused: the pack stays", "4 2 3 1 0", () -> pack(x));
        check.due("answer refused: not counted", 2, () -> x.count(5));
        for (int i = 3; i <= 20; i++) {
            x.answer(2, 0, 0, 0);
        }
        check.due("20 answers", 20, () -> x.count(5));
        check.due("the 21st", -1, () -> x.answer(2, 0, 0, 0));
        check.due("the 21st: status", 9, () -> x.count(9));
        check.due("undone", 19, x::undo);
        check.dueTrue("and another", x.answer(2, 0, 0, 0) >= 0);
    }

    // 19
    private void undo() {
        PileTricks x = Check.told("cards 7;heaps 3;lies 1;");
        List<String> before = new ArrayList<>();
        for (int i = 0; i < 20; i++) {
            before.add(pack(x) + " / " + x.fits());
            x.answer(i % 3, i / 3 % 2, (i + 1) % 3, i * i % 3);
        }
        x.see();
        for (int i = 19; i >= 0; i--) {
            int left = i;
            check.due("undo", left, x::undo);
            check.dueTrue("undo: the pack and what fits", before.get(left).equals(pack(x) + " / " + x.fits()));
        }
        check.due("undo none", -1, x::undo);
        check.due("undo none: status", 0, () -> x.count(9));
    }

    // 20, 21
    private void liesAndFits() {
        PileTricks x = Check.told("cards 5;heaps 2;lies 1;");
        x.answer(0, 0, 0, 0);
        x.answer(1, 1, 1, 0);
        // Heap 0 has cards 0, 2, 4, then (of 0 2 4 1 3) cards 0, 1, 3.
        int[] due = {0, 1, 1, 1, 1};
        for (int i = 0; i < 5; i++) {
            int card = i;
            check.due("lies " + card, due[card], () -> x.lies(card));
        }
        check.due("fits", 31, x::fits);
        x.answer(2, 0, 0, 1);
        // The pack was 4 2 3 1 0: heap 1 of the runs has cards 1 and 0.
        check.due("lies again", 2, () -> x.lies(4));
        check.due("fits again", 3, x::fits);
        check.due("count of those", 2, () -> x.count(6));
        check.dueThrow("lies -1", NO_SUCH, () -> x.lies(-1));
        check.dueThrow("lies 5", NO_SUCH, () -> x.lies(5));
        check.due("fits, 60 cards", (1L << 60) - 1, Check.told("cards 60;")::fits);
    }

    // 22, 23
    private void seeAndBetween() {
        for (int code = 0; code < 648; code++) {
            PileTricks x = Check.told("cards 7;heaps 3;");
            int kind = code / 216;
            int side = code / 36 % 6;
            int laying = code / 6 % 6;
            int named = code % 6;
            if (x.answer(kind, side, laying, named) < 0) {
                continue;
            }
            int first = x.between(1);
            check.dueTrue("between: there is one", x.between(0) > 0 && first >= 0 && first <= code);
            String now = pack(x);
            x.undo();
            x.answer(first / 216, first / 36 % 6, first / 6 % 6, first % 6);
            check.dueRow("between: by the first one", now, () -> pack(x));
            x.see();
            check.due("seen: as it is", 3, () -> x.between(0));
            check.due("seen: as it is, first", 432, () -> x.between(1));
            x.undo();
            x.see();
        }
        PileTricks y = Check.told("cards 16;heaps 4;");
        y.answer(2, 0, 3, 1);
        check.due("between goes from what was seen", 1, () -> y.between(0));
        check.due("between goes from what was seen: it", 432 + 18 + 1, () -> y.between(1));
        y.answer(0, 0, 0, 0);
        y.answer(1, 1, 2, 2);
        check.due("between: none", 0, () -> y.between(0));
        check.due("between: none is first", -1, () -> y.between(1));
        check.dueThrow("between -1", NO_SUCH, () -> y.between(-1));
        check.dueThrow("between 2", NO_SUCH, () -> y.between(2));
    }

    // 24
    private void evenings() {
        PileTricks x = Check.told("cards 10;wish 4;");
        for (int seed : new int[] {0, 1, -1, 123456789, Integer.MIN_VALUE}) {
            int s = seed;
            int met = 0;
            for (int i = 0; i < 60; i++) {
                s = s * 1103515245 + 12345;
                met += (s >>> 16) % 32768 % 10 == 4 ? 1 : 0;
            }
            check.due("evenings without deals", met, () -> x.evenings(seed, 60, 0));
        }
        check.due("evenings, all", 60, () -> Check.told("wish 13;").evenings(5, 60, 3));
        check.due("evenings, one", 1, () -> Check.told("wish 13;").evenings(5, 1, 60));
        check.due("evenings, none of them", 0, () -> Check.told("wish 12;").evenings(5, 60, 3));
        check.due("no evenings", 0, () -> Check.told("wish 13;").evenings(5, 0, 3));
        check.due("a wish beyond the cards", 0, () -> Check.told("wish 59;").evenings(5, 60, 0));
        check.dueThrow("evenings -1", ILLEGAL, () -> x.evenings(1, -1, 0));
        check.dueThrow("evenings 61", ILLEGAL, () -> x.evenings(1, 61, 0));
        check.dueThrow("evenings n -1", ILLEGAL, () -> x.evenings(1, 1, -1));
        check.dueThrow("evenings n 61", ILLEGAL, () -> x.evenings(1, 1, 61));
    }

    // 25
    private void weighings() {
        PileTricks x = new PileTricks();
        int[][] known = {{1, 0}, {2, 1}, {3, 1}, {4, 2}, {9, 2}, {10, 3}, {27, 3}, {28, 4}, {81, 4}, {82, 5}, {243, 5},
            {244, 6}, {729, 6}, {730, 7}, {1000, 7}};
        int[][] unknown = {{1, -1}, {2, -1}, {3, 2}, {4, 3}, {12, 3}, {13, 4}, {39, 4}, {40, 5}, {120, 5}, {121, 6},
            {363, 6}, {364, 7}, {1000, 7}};
        for (int[] row : known) {
            check.due("weighings, heavier " + row[0], row[1], () -> x.weighings(row[0], true));
        }
        for (int[] row : unknown) {
            check.due("weighings, unknown " + row[0], row[1], () -> x.weighings(row[0], false));
        }
        for (int cards : new int[] {0, -1, 1001, Integer.MAX_VALUE, Integer.MIN_VALUE}) {
            check.dueThrow("weighings " + cards, ILLEGAL, () -> x.weighings(cards, true));
            check.dueThrow("weighings " + cards, ILLEGAL, () -> x.weighings(cards, false));
        }
    }

    // 26, 27
    private void imageAndRestore() {
        PileTricks x = Check.told("cards 11;heaps 3;lies 1;");
        x.answer(0, 0, 1, 1);
        x.see();
        x.answer(1, 1, 2, 0);
        String pack = pack(x);
        long fits = x.fits();
        int between = x.between(1);
        x.image();
        for (int i = 0; i < 2; i++) {
            x.answer(2, 1, 1, 1);
            x.answer(0, 1, 0, 2);
            x.answer(5, 0, 0, 0);
            x.see();
            check.due("restore", 1, () -> x.restore() ? 1 : 0);
            check.due("restore: answers", 2, () -> x.count(5));
            check.dueTrue("restore: pack", pack.equals(pack(x)));
            check.due("restore: fits", fits, x::fits);
            check.due("restore: seen", between, () -> x.between(1));
            check.due("restore: status stays", i + 1, () -> x.count(9));
        }
        check.due("restored answers are undone", 1, x::undo);
        check.due("restored answers are undone, too", 0, x::undo);
        check.dueRow("as at first", "0 1 2 3 4 5 6 7 8 9 10", () -> pack(x));
        x.see();
        x.answer(0, 1, 2, 0);
        x.image();
        x.undo();
        check.due("another image", 1, () -> x.restore() ? 1 : 0);
        check.due("another image: answers", 1, () -> x.count(5));
        check.due("another image: between", 36 + 12, () -> x.between(1));
    }
}
