/** Boundary cases of texts: promises 1 to 6, the language, and its FAULTS. */
public final class BoundaryTextTest extends Boundaries {
    private static final String SMALL = "cards 5;heaps 2;lies 1;wish 4;deal turn under at 0;deal run over at named;";
    private static final String[] FAULTY = {"cards", "cards 1;", "deal run over at pile;", "wish 1;wish 1;", "cards 2;"};

    public static void main(String[] args) {
        BoundaryTextTest test = new BoundaryTextTest();
        test.newObject();
        test.fed();
        test.fedFull();
        test.readFromTheTape();
        test.readAnew();
        test.readWithAFault();
        test.readTooMuch();
        test.placeOfTheFault();
        test.numbersTold();
        test.tokens();
        test.lines();
        test.workedOut();
        test.valuesOfRules();
        test.firstFault();
        test.misplaced();
        test.tooMuch();
        test.tooDeep();
        test.noValue();
        test.toldTwice();
        test.tooFewCards();
        test.counted();
        test.told();
        test.layings();
        test.check.close("BoundaryTextTest");
    }

    private void newObject() {
        of(1, "27 CARDS, 3 HEAPS, no DEALS.");
        PileTricks x = new PileTricks();
        int[] counts = {27, 3, 0, 0, 0, 0, 27, 0, 0, 0};
        for (int what = 0; what < counts.length; what++) {
            int w = what;
            due("count(" + w + ")", counts[w], () -> x.count(w));
        }
        due("fault()", -1, x::fault);
        dueRow("the pack", "0 1 2 3 4 5 6 7 8 9 10 11 12 13 14 15 16 17 18 19 20 21 22 23 24 25 26", () -> pack(x));
        dueThrow("nothing is found: laying(0)", NO_SUCH, () -> x.laying(0));
        due("no answers: undo()", -1, x::undo);
        due("no image: restore()", 0, () -> x.restore() ? 1 : 0);
        of(1, "SEEN is THE PACK as it lies, once it is told so (at first, and with each TRICK, as at first).");
        due("between(1)", 432, () -> x.between(1));
    }

    private static int feedBlanks(PileTricks x) {
        return x.feed(0x20202020, 0x20202020, 0x20202020, 0x20202020, 0x20202020);
    }

    /** Twenty blanks but for one byte that is no token, which tells its place as a fault. */
    private static int feedBad(PileTricks x, int place, int bad) {
        int[] w = new int[5];
        for (int i = 0; i < 20; i++) {
            w[i / 4] = w[i / 4] << 8 | (i == place ? bad : 32);
        }
        return x.feed(w[0], w[1], w[2], w[3], w[4]);
    }

    private void fed() {
        of(2, "Twenty bytes come behind the tape, of each number the highest first: how many it has");
        for (int place = 0; place < 20; place++) {
            for (int bad : new int[] {0, 127, 128, 255}) {
                PileTricks x = new PileTricks();
                int at = place;
                due("the first twenty", 20, () -> feedBlanks(x));
                due("twenty behind them", 40, () -> feedBad(x, at, bad));
                due("twenty more", 60, () -> feedBlanks(x));
                due("a byte " + bad, 1, () -> x.trick(60));
                due("its place", 20 + at, x::fault);
            }
        }
        due("numbers below 0: bytes of 255", 1, () -> {
            PileTricks x = new PileTricks();
            x.feed(-1, -1, -1, -1, -1);
            return x.trick(20);
        });
    }

    private void fedFull() {
        of(2, "NONE, and none come, if it would have more than 500.");
        PileTricks x = new PileTricks();
        for (int i = 1; i < 25; i++) {
            int many = 20 * i;
            due("feed", many, () -> feedBlanks(x));
        }
        due("up to 500", 500, () -> feedBad(x, 19, 0));
        dueUnchanged("a 26th", "-1", x, () -> feedBad(x, 0, 0));
        dueUnchanged("a 27th", "-1", x, () -> x.feed(MOST, LEAST, 0, -1, 1));
        due("count(7)", 500, () -> x.count(7));
        due("the 500 bytes are those that came", 1, () -> x.trick(500));
        due("its place", 499, x::fault);
        due("there is room again", 20, () -> feedBlanks(x));
        due("and only that came", 0, () -> x.trick(20));
    }

    private void readFromTheTape() {
        of(3, "The tape's first n bytes (it is empty then) are a TRICK");
        PileTricks x = new PileTricks();
        Check.trick(x, SMALL);
        due("empty behind a good text", 0, () -> x.count(7));
        Check.trick(x, "cards 1;");
        due("empty behind a fault", 0, () -> x.count(7));
        x.feed(0x63617264, 0x73203132, 0x3b3b3b3b, 0x3b3b3b3b, 0x3b3b3b3b);
        due("'cards 12;' of a longer tape", 0, () -> x.trick(9));
        due("count(0)", 12, () -> x.count(0));
        due("the rest of the tape is gone", 0, () -> x.count(7));
        x.feed(0x63617264, 0x73203132, 0x3b3b3b3b, 0x3b3b3b3b, 0x3b3b3b3b);
        due("cut within a line", 1, () -> x.trick(8));
        due("cut within a line: fault()", 8, x::fault);
        x.feed(0x63617264, 0x73203132, 0x3b3b3b3b, 0x3b3b3b3b, 0x3b3b3b3b);
        due("cut within a number", 2, () -> x.trick(7));
        x.feed(0x63617264, 0x73203132, 0x3b3b3b3b, 0x3b3b3b3b, 0x3b3b3b3b);
        due("cut within a word", 1, () -> x.trick(4));
        due("cut within a word: fault()", 0, x::fault);
        x.feed(0x3b3b3b3b, 0x3b3b3b3b, 0x3b3b3b3b, 0x3b3b3b3b, 0x3b3b3b3b);
        due("no byte of twenty", 0, () -> x.trick(0));
        due("no byte of twenty: empty then", 0, () -> x.count(7));
        due("no byte of none", 0, () -> x.trick(0));
        of(3, "A TEXT of at most 500 bytes tells it.");
        StringBuilder longest = new StringBuilder();
        while (longest.length() < 492) {
            longest.append(longest.length() % 3 == 0 ? '\n' : ' ');
        }
        longest.append("cards 9;");
        good(longest.toString());
        due("told at its end", 9, () -> Check.told(longest.toString()).count(0));
        fault(longest.substring(0, 499) + "!", 1, 499);
        fault(longest.substring(0, 499) + " ", 1, 500);
    }

    private static PileTricks used() {
        PileTricks x = Check.told(SMALL);
        x.wished(4, 5);
        x.answer(0, 0, 0, 0);
        x.see();
        x.answer(1, 1, 1, 1);
        x.image();
        x.answer(2, 1, 0, 1);
        x.answer(9, 9, 9, 9);
        return x;
    }

    private void readAnew() {
        of(3, "all anew: 0");
        for (String text : new String[] {"", " ", "cards 27;", "lies 0;wish 0;"}) {
            PileTricks x = used();
            due("'" + text + "'", 0, () -> Check.trick(x, text));
            dueRow("'" + text + "' as a new object", state(new PileTricks()), () -> state(x));
        }
        PileTricks small = used();
        due("the same text again", 0, () -> Check.trick(small, SMALL));
        dueRow("the same text again, as if only it were read", state(Check.told(SMALL)), () -> state(small));
        of(3, "ANSWERS, what was found, the image are gone (STATUS stays).");
        PileTricks x = used();
        Check.trick(x, ";");
        check.dueTrue("something was found", x.laying(4) >= 0);
        due("good", 0, () -> Check.trick(x, SMALL));
        due("answers: count(5)", 0, () -> x.count(5));
        due("answers: fits()", 31, x::fits);
        due("answers: undo()", -1, x::undo);
        dueThrow("what was found: laying(0)", NO_SUCH, () -> x.laying(0));
        due("image: restore()", 0, () -> x.restore() ? 1 : 0);
        due("status: count(8)", 1, () -> x.count(8));
        due("status: count(9)", 1, () -> x.count(9));
        of(3, "SEEN is THE PACK as it lies, once it is told so (at first, and with each TRICK, as at first).");
        due("between(1)", 432, () -> x.between(1));
        x.answer(0, 0, 0, 0);
        due("from the pack as at first", 0, () -> x.between(1));
        of(3, "at first in their order, place 0 on top.");
        PileTricks many = Check.told("cards 2;heaps 2;");
        many.answer(0, 0, 0, 1);
        Check.trick(many, "cards 6;");
        dueRow("more cards than were told before", "0 1 2 3 4 5", () -> pack(many));
    }

    private void readWithAFault() {
        of(3, "or the FAULT (all stays).");
        for (int i = 0; i < FAULTY.length; i++) {
            PileTricks x = used();
            String before = state(x);
            int number = i + 1;
            int texts = x.count(8) + 1;
            due(FAULTY[i], number, () -> Check.trick(x, FAULTY[number - 1]));
            dueRow(FAULTY[i] + " leaves all", before, () -> state(x));
            due(FAULTY[i] + " leaves the image", 1, () -> x.restore() ? 1 : 0);
            due(FAULTY[i] + " leaves that image", 2, () -> x.count(5));
            due(FAULTY[i] + " undo()", 1, x::undo);
            of(3, "STATUS: how many calls were refused: 0 of TEXTS with a FAULT, 1 of ANSWERS.");
            due(FAULTY[i] + " count(8)", texts, () -> x.count(8));
            due(FAULTY[i] + " count(9)", 1, () -> x.count(9));
            of(3, "or the FAULT (all stays).");
        }
        PileTricks x = new PileTricks();
        due("behind good lines", 1, () -> Check.trick(x, "cards 9;heaps 4;lies 2;wish 8;deal run over at 1;;"));
        dueRow("of which none counts", state(new PileTricks()), () -> state(x));
        dueRow("nor for the next text", state(Check.told("deal fro under at 2;")), () -> {
            Check.trick(x, "deal fro under at 2;");
            return state(x);
        });
        for (String rule : new String[] {"not !", "not not !", "1+2*!", "((!", "1<!", "1<(1<1)+!", "not not not not not not !"}) {
            PileTricks y = new PileTricks();
            due("within a rule", 1, () -> Check.trick(y, "deal run over at 1;deal run over at " + rule));
            due("the next rule is read as if alone", 0, () -> Check.trick(y, "deal run over at not not 2<5;"));
            due("and worked out so", 1, () -> y.told(0, 0, 2));
        }
        of(3, "STATUS: how many calls were refused: 0 of TEXTS with a FAULT, 1 of ANSWERS.");
        for (int i = 2; i <= 60; i++) {
            int texts = i;
            Check.trick(x, ";");
            due("count(8)", texts, () -> x.count(8));
        }
        due("a good text is not counted", 60, () -> x.count(8) + Check.trick(x, "cards 9;"));
        due("nor taken off", 60, () -> x.count(8));
    }

    private void readTooMuch() {
        of(3, "IllegalArgumentException: the tape has not so many, n below 0 (nothing changes).");
        for (int n : new int[] {1, 500, MOST, -1, LEAST}) {
            PileTricks x = used();
            dueUnchanged("an empty tape, trick(" + n + ")", thrown(ILLEGAL), x, () -> x.trick(n));
        }
        PileTricks y = used();
        Check.trick(y, "cards 1;");
        y.feed(0x63617264, 0x7320393b, 0x68656170, 0x7320343b, 0x3b202020);
        for (int n : new int[] {21, -1, -20}) {
            dueUnchanged("twenty on it, trick(" + n + ")", thrown(ILLEGAL), y, () -> y.trick(n));
        }
        due("the image stays", 1, () -> y.restore() ? 1 : 0);
        due("the bytes stay", 0, () -> y.trick(16));
        due("the bytes stay: count(0)", 9, () -> y.count(0));
        due("the bytes stay: count(1)", 4, () -> y.count(1));
        PileTricks full = new PileTricks();
        for (int i = 0; i < 25; i++) {
            feedBlanks(full);
        }
        dueUnchanged("500 on it, trick(501)", thrown(ILLEGAL), full, () -> full.trick(501));
        due("500 on it, trick(500)", 0, () -> full.trick(500));
    }

    private void placeOfTheFault() {
        of(4, "The place of the latest trick()'s FAULT; NONE without.");
        PileTricks x = new PileTricks();
        due("a new object", -1, x::fault);
        Check.trick(x, " cards 5; cards 5;");
        due("a fault", 10, x::fault);
        due("asked again", 10, x::fault);
        Check.trick(x, "!");
        due("another, at the first byte", 0, x::fault);
        Check.trick(x, "cards 2;  ");
        due("another, at the text's length", 10, x::fault);
        dueThrow("a trick() that throws", ILLEGAL, () -> x.trick(1));
        due("is none", 10, x::fault);
        Check.trick(x, "cards 5;");
        due("a good text", -1, x::fault);
    }

    private void told(String word, int least, int most, int without, int what) {
        of(3, "(" + least + " to " + most + "; " + without + " without)");
        due(word + " without", without, () -> Check.told("").count(what));
        String others = word.equals("heaps") ? "cards 60;" : word.equals("cards") ? "heaps 2;" : "";
        for (int number = 0; number <= most + 3; number++) {
            String text = others + word + " " + number + ";";
            if (number >= least && number <= most) {
                int n = number;
                good(text);
                due(text, n, () -> Check.told(text).count(what));
            } else {
                fault(text, 2, text.length() - 1 - Integer.toString(number).length());
            }
        }
        for (String large : new String[] {"99", "100", "256", "9999"}) {
            fault(others + word + " " + large + ";", 2, others.length() + word.length() + 1);
        }
    }

    private void numbersTold() {
        told("cards", 2, 60, 27, 0);
        told("heaps", 2, 6, 3, 1);
        told("lies", 0, 2, 0, 3);
        told("wish", 0, 59, 0, 4);
        of(3, "A WISH: a place (0 to 59; 0 without).");
        due("a wish beyond the cards is no fault", 59, () -> Check.told("wish 59;cards 2;heaps 2;").count(4));
        of(3, "DEALS (at most 8)");
        for (int many = 0; many <= 8; many++) {
            int deals = many;
            due(deals + " deals", deals, () -> Check.told("deal run over at 1;".repeat(deals)).count(2));
        }
        fault("deal run over at 1;".repeat(9), 2, 152);
        fault("deal run over at 1;".repeat(20), 2, 152);
    }

    private void tokens() {
        of(3, "words (a .. z, the longest row)");
        good("cards9;heaps4;deal turn under at(1);");
        fault("cardss 9;", 1, 0);
        fault("bards 9;", 1, 0);
        fault("cardt 9;", 1, 0);
        fault("card 9;", 1, 0);
        fault("card s 9;", 1, 0);
        fault("dealturn under at 1;", 1, 0);
        fault("deal turnunder at 1;", 1, 5);
        fault("deal turn under atnamed;", 1, 16);
        fault("deal turn under at notnamed;", 3, 19);
        fault("`ards 9;", 1, 0);
        fault("{ards 9;", 1, 0);
        fault("cards` 9;", 1, 5);
        fault("cards{ 9;", 1, 5);
        fault("Cards 9;", 1, 0);
        fault("cardS 9;", 1, 0);
        of(3, "NUMBERS (1 to 4 digits)");
        good("cards 9;");
        good("cards 09;");
        good("cards 009;");
        good("cards 0009;");
        good("wish 0000;");
        fault("cards 00009;", 2, 6);
        fault("cards 0000000000009;", 2, 6);
        fault("cards 4294967305;", 2, 6);
        fault("cards 18446744073709551625;", 2, 6);
        fault("cards 1/;", 2, 6);
        fault("cards 9/;", 1, 7);
        fault("cards 9:;", 1, 7);
        fault("cards :;", 1, 6);
        fault("cards 9a;", 1, 7);
        of(3, "signs ; ( ) + - * / < =");
        goodRule("((1)+2-3*4/5<6)");
        goodRule("1=2");
        for (int sign = 33; sign < 127; sign++) {
            boolean plain = sign >= '0' && sign <= '9' || sign >= 'a' && sign <= 'z';
            if (!plain && ";()+-*/<=".indexOf(sign) < 0) {
                ruleFault("1" + (char) sign + "1;", 1, 1);
                fault("wish 1" + (char) sign + ";", 1, 6);
            }
        }
        of(3, "blanks (32, 10) between them count for nothing");
        good("\n cards \n\n 9 \n ; \n");
        good("cards9;heaps4;lies1;wish1;");
        for (int other = 0; other < 256; other++) {
            if (other < 32 && other != 10 || other > 126) {
                fault("wish" + (char) other + "1;", 1, 4);
                fault((char) other + "wish 1;", 1, 0);
                fault("wish 1;" + (char) other, 1, 7);
            }
        }
        fault("car ds 9;", 1, 0);
        fault("cards 1 2;", 2, 6);
        fault("wish 1 2;", 1, 7);
    }

    private void lines() {
        of(3, "[ ] perhaps, * any number of times");
        good("");
        good(" \n");
        good("wish 1;");
        goodRule("1");
        goodRule("1+1-1+1-1+1");
        goodRule("1*1/1*1/1*1");
        goodRule("1 or 1 or 1 or 1");
        goodRule("1 and 1 and 1 and 1");
        goodRule("1<1 and 1=1 or 1<1 and 1=1");
        good("deal fro over at " + "1+".repeat(240) + "1;");
        good("deal fro over at " + "(1)+".repeat(120) + "1;");
        good("deal fro over at " + "1 or ".repeat(95) + "1;");
        ruleFault("1<1<1;", 1, 3);
        ruleFault("1=1<1;", 1, 3);
        ruleFault("1+1=1+1=1;", 1, 7);
        ruleFault("1 or 1<1<1;", 1, 8);
        goodRule("(1<1)<1");
        goodRule("1<(1<1)");
        ruleFault("1<(1<1)<1;", 1, 7);
        for (int depth = 0; depth <= 5; depth++) {
            ruleFault("(".repeat(depth) + "1<1=1;", 1, depth + 3);
            goodRule("(".repeat(depth) + "1<1 and 1=1" + ")".repeat(depth));
        }
        of(3, "'at' EXPR) ';'");
        fault("wish 1", 1, 6);
        fault("wish 1 lies 1;", 1, 7);
        fault(";", 1, 0);
        fault("wish 1;;", 1, 7);
        fault("deal turn over at 1", 1, 19);
        fault("deal turn over at 1 wish 1;", 1, 20);
    }

    private void workedOut() {
        of(6, "From the left");
        gives("100-10-1", 89);
        gives("100-10+1", 91);
        gives("100/10/2", 5);
        gives("100/10*2", 20);
        gives("7*5/10", 3);
        gives("2+3*4", 14);
        gives("20-6/4", 19);
        gives("4<2+3", 1);
        gives("6<9-3", 0);
        gives("2+3<4", 0);
        gives("3=1+1*2", 1);
        gives("1+1*2=3", 1);
        gives("9-4=8-3", 1);
        of(6, "ints that wrap");
        gives("9999*9999*9999", 9999 * 9999 * 9999);
        gives("8192*8192*32", LEAST);
        gives("8192*8192*32-1", MOST);
        gives("8192*8192*32-1+1", LEAST);
        gives("0-8192*8192*32", LEAST);
        gives("(8192*8192*32-1)*2", -2);
        gives("8192*8192*32/(0-1)", LEAST);
        gives("8192*8192*32<0", 1);
        of(6, "/ cut down to 0");
        gives("7/2", 3);
        gives("(0-7)/2", -3);
        gives("7/(0-2)", -3);
        gives("(0-7)/(0-2)", 3);
        gives("(0-1)/2", 0);
        gives("1/9999", 0);
        of(6, "by 0 gives 0");
        gives("7/0", 0);
        gives("0/0", 0);
        gives("(0-7)/(3-3)", 0);
        gives("8192*8192*32/0", 0);
        gives("5+7/0", 5);
        gives("7/0/0", 0);
        of(6, "tests, not, and, or are 1 or 0 (what isn't 0 holds)");
        gives("5<6", 1);
        gives("5<5", 0);
        gives("6<5", 0);
        gives("5=5", 1);
        gives("5=6", 0);
        gives("0-1<0", 1);
        gives("not 0", 1);
        gives("not 1", 0);
        gives("not 7", 0);
        gives("not 0-1", 0);
        gives("not not 7", 1);
        gives("not not not not not not 7", 1);
        gives("7 and 7", 1);
        gives("7 and 0", 0);
        gives("0 and 7", 0);
        gives("0-1 and 0-1", 1);
        gives("0 or 0", 0);
        gives("0 or 7", 1);
        gives("7 or 0", 1);
        gives("4 or 3", 1);
        gives("4 and 3", 1);
        gives("0-1 or 0", 1);
        gives("1 or 1 and 0", 1);
        gives("(1 or 1) and 0", 0);
        gives("not 0 and 0", 0);
        gives("not (0 and 0)", 1);
        gives("not 0 or 1", 1);
        gives("not 3=4", 1);
        gives("not 4<3+3", 0);
        gives("1+(3<4)+(3<4)", 3);
    }

    private void valuesOfRules() {
        of(6, "'deal' (the DEAL's number, 0 on)");
        PileTricks x = Check.told("heaps 6;" + "deal run over at deal;".repeat(8));
        for (int i = 0; i < 8; i++) {
            int deal = i;
            due("deal " + deal, deal % 6, () -> x.told(deal, 0, 2));
        }
        of(6, "'wish', 'heaps', 'cards'");
        PileTricks y = Check.told("deal run over at wish;deal run over at heaps/2;deal run over at cards;"
            + "wish 59;heaps 5;cards 53;");
        int[] values = {4, 2, 3};
        for (int i = 0; i < 3; i++) {
            int deal = i;
            due("told behind the rule " + deal, values[deal], () -> y.told(deal, 0, 2));
        }
        PileTricks z = Check.told("deal run over at wish+1;deal run over at heaps/2;deal run over at cards+2;");
        int[] without = {1, 1, 2};
        for (int i = 0; i < 3; i++) {
            int deal = i;
            due("without " + deal, without[deal], () -> z.told(deal, 0, 2));
        }
        of(6, "'named' (the heap that is NAMED), 'size' (how many CARDS lie in it)");
        PileTricks six = Check.told("cards 8;heaps 6;deal run over at named;deal turn over at size;"
            + "deal fro over at size;deal run over at size;");
        int[][] due = {{0, 1, 2, 3, 4, 5}, {2, 2, 1, 1, 1, 1}, {1, 1, 1, 1, 2, 2}, {2, 2, 1, 1, 1, 1}};
        for (int i = 0; i < 24; i++) {
            int deal = i / 6;
            int named = i % 6;
            due("deal " + deal + ", heap " + named, due[deal][named], () -> six.told(deal, named, 2));
        }
    }

    private void firstFault() {
        of(4, "FAULTS, the first along the text, at a TOKEN's first byte");
        fault("cards 61;cards;", 2, 6);
        fault("cards 9;cards 99999;", 4, 8);
        fault("cards 2; wish 1; ! lies 9;", 1, 17);
        fault("cards 2; wish 1; lies 9; !", 2, 22);
        fault("cards 2; wish", 1, 13);
        fault("deal run over at pile+12345;", 3, 17);
        fault("deal run over at 12345+pile;", 2, 17);
        fault("deal run over at 1+abcdefg;", 3, 19);
        fault("deal run  abcdefg", 1, 10);
        of(4, "of one TOKEN the least");
        fault("12345;", 1, 0);
        ruleFault("1 12345;", 1, 2);
        ruleFault("((((((pile", 2, 6);
        ruleFault("((((((12345", 2, 6);
        fault("deal run over at 1;".repeat(8) + "12345", 1, 152);
    }

    private void misplaced() {
        of(4, "1 a TOKEN that can't stand there, or is none (the text's length where it ends too soon)");
        String line = "deal turn over at 1;";
        int[] ends = {4, 9, 14, 17, 19};
        for (int end : ends) {
            fault(line.substring(0, end), 1, end);
            fault(line.substring(0, end) + " \n ", 1, end + 3);
        }
        for (String word : new String[] {"cards", "heaps", "lies", "wish"}) {
            fault(word, 1, word.length());
            fault(word + " ", 1, word.length() + 1);
            fault(word + " 2", 1, word.length() + 2);
            fault(word + ";", 1, word.length());
            fault(word + " " + word, 1, word.length() + 1);
            fault(word + " (2);", 1, word.length() + 1);
            fault(word + " -2;", 1, word.length() + 1);
        }
        for (String word : new String[] {"turn", "under", "at", "named", "size", "or", "and", "not", "pile", "9", "(", "-"}) {
            fault(word + " 2;", 1, 0);
        }
        for (String word : new String[] {"under", "at", "deal", "turns", "1", ";", "\u00e9"}) {
            fault("deal " + word + " under at 1;", 1, 5);
        }
        for (String word : new String[] {"turn", "at", "overs", "1", ";", "\u00e9"}) {
            fault("deal fro " + word + " at 1;", 1, 9);
        }
        for (String word : new String[] {"on", "over", "1", ";", "(", "\u00e9"}) {
            fault("deal fro over " + word + " 1;", 1, 14);
        }
        for (String sign : new String[] {";", ")", "+", "-", "*", "/", "<", "=", "!", "\u0000"}) {
            ruleFault(sign, 1, 0);
            ruleFault("1+" + sign, 1, 2);
            ruleFault("1*" + sign, 1, 2);
            ruleFault("1<" + sign, 1, 2);
            ruleFault("1 or " + sign, 1, 5);
            ruleFault("not " + sign, 1, 4);
            ruleFault("(" + sign, 1, 1);
        }
        for (String one : new String[] {"1", "12345", "(", "named", "not", "pile", "at", "!", "\u0000"}) {
            ruleFault("1 " + one, 1, 2);
            ruleFault("wish " + one, 1, 5);
            ruleFault("(1)" + one, 1, 3);
        }
        ruleFault("1);", 1, 1);
        ruleFault("(1));", 1, 3);
        ruleFault("(1;", 1, 2);
        ruleFault("((1);", 1, 4);
        ruleFault("(", 1, 1);
        ruleFault("(1", 1, 2);
        ruleFault("not", 1, 3);
    }

    private void tooMuch() {
        of(4, "2 one that can, but is too much: a NUMBER of 5 digits or more");
        fault("cards 00005;", 2, 6);
        fault("heaps 00003", 2, 6);
        fault("lies 00000;", 2, 5);
        fault("wish 12345;", 2, 5);
        ruleFault("12345;", 2, 0);
        ruleFault("1+00001;", 2, 2);
        ruleFault("(10000", 2, 1);
        ruleFault("not 10000", 2, 4);
        ruleFault("1<10000", 2, 2);
        goodRule("9999");
        goodRule("0001");
        of(4, "or (not in an EXPR) not as told");
        fault("cards 61", 2, 6);
        fault("lies 3!", 2, 5);
        fault("heaps 0 0", 2, 6);
        for (int number : new int[] {0, 1, 7, 61, 1000, 9999}) {
            goodRule(Integer.toString(number));
        }
        of(4, "the first TOKEN of the 9th DEAL");
        String eight = "deal run over at 1;".repeat(8);
        good(eight);
        good(eight + "wish 1;cards 9;");
        fault(eight + "deal", 2, 152);
        fault(eight + "deal!", 2, 152);
        fault(eight + "\n deal run over at 1;", 2, 154);
        fault("wish 1;" + eight + "lies 1; deal", 2, 167);
        fault(eight + "deals", 1, 152);
        fault(eight + "dea", 1, 152);
        fault(eight.substring(0, 151) + "deal", 1, 151);
        fault(eight.substring(0, 150) + "pile;deal", 3, 150);
        of(4, "the seventh 'not' side by side");
        goodRule("not ".repeat(6) + "1");
        goodRule("not ".repeat(6) + "(" + "not ".repeat(6) + "1)");
        goodRule("not ".repeat(6) + "1 and " + "not ".repeat(6) + "1");
        goodRule("not ".repeat(6) + "1 or " + "not ".repeat(6) + "1");
        goodRule("(" + "not ".repeat(6) + "1)+(" + "not ".repeat(6) + "1)");
        ruleFault("not ".repeat(7) + "1;", 2, 24);
        ruleFault("not ".repeat(9) + "1;", 2, 24);
        ruleFault("not ".repeat(6) + "not", 2, 24);
        ruleFault("not\n".repeat(7), 2, 24);
        ruleFault("1 or " + "not ".repeat(7), 2, 29);
        ruleFault("1 and " + "not ".repeat(7), 2, 30);
        ruleFault("not 1 and " + "not ".repeat(7), 2, 34);
        ruleFault("(" + "not ".repeat(7), 2, 25);
        ruleFault("not(" + "not ".repeat(7), 2, 28);
        ruleFault("not ".repeat(6) + "nots;", 3, 24);
        ruleFault("not ".repeat(6) + ";", 1, 24);
    }

    private void tooDeep() {
        of(4, "of an EXPR within 6 others (a NUMBER, any word, a parenthesis)");
        goodRule("(((((1)))))");
        goodRule("(((((1)))))+(((((1)))))");
        goodRule("1+(1*(1 or (1<(not (1)))))");
        goodRule("(1)+".repeat(20) + "1");
        for (String one : new String[] {"1", "12345", "named", "not", "pile", "or", "and", "at", "deal", "z", "(", "("}) {
            ruleFault("((((((" + one, 2, 6);
            ruleFault("1+(2*(3-(4/(5<(6=( " + one, 2, 19);
            ruleFault("(((((1)))))*((((((" + one, 2, 18);
        }
        ruleFault("(((((((((((", 2, 6);
        ruleFault("((((((1))))));", 2, 6);
        for (String one : new String[] {")", "+", "-", "*", "/", "<", "=", ";", "!", "\u00e9", ""}) {
            ruleFault("((((((" + one, 1, 6);
        }
    }

    private void noValue() {
        of(4, "3 any word where a PART must stand that is no VALUE");
        for (String word : new String[] {"pile", "or", "and", "at", "lies", "turn", "fro", "run", "under", "over", "a", "z",
                "deals", "wis", "heap", "card", "name", "sizes"}) {
            ruleFault(word + ";", 3, 0);
            ruleFault("1+" + word, 3, 2);
            ruleFault("1-" + word, 3, 2);
            ruleFault("1*" + word, 3, 2);
            ruleFault("1/" + word, 3, 2);
            ruleFault("1<" + word, 3, 2);
            ruleFault("1=" + word, 3, 2);
            ruleFault("1 or " + word, 3, 5);
            ruleFault("1 and " + word, 3, 6);
            ruleFault("not " + word, 3, 4);
            ruleFault("(((((" + word, 3, 5);
        }
        for (String before : new String[] {"1+", "1-", "1*", "1/", "1<", "1="}) {
            ruleFault(before + "not 1;", 3, 2);
            goodRule(before + "(not 1)");
        }
        for (String value : new String[] {"deal", "wish", "heaps", "cards", "named", "size"}) {
            goodRule(value);
            goodRule("1+" + value);
            goodRule("not " + value);
            goodRule("(((((" + value + ")))))");
        }
    }

    private void toldTwice() {
        of(4, "4 a second 'cards', 'heaps', 'lies', 'wish'");
        for (String word : new String[] {"cards", "heaps", "lies", "wish"}) {
            String line = word + " 2;";
            String other = word.equals("wish") ? "lies 2;" : "wish 2;";
            String before = word.equals("cards") ? "heaps 2;" : "";
            good(before + line);
            fault(before + line + line, 4, before.length() + line.length());
            fault(before + line + word, 4, before.length() + line.length());
            fault(before + line + word + " 99999;", 4, before.length() + line.length());
            fault(before + line + other + "\n" + line, 4, before.length() + line.length() + other.length() + 1);
            fault(before + line + "deal run over at 1; " + word, 4, before.length() + line.length() + 20);
        }
        good("cards 9;heaps 4;lies 2;wish 3;deal run over at cards+cards+heaps+heaps+wish+wish;");
        fault("lies 0;lies 0;", 4, 7);
        fault("wish 0;wish 0;", 4, 7);
        good("deal run over at 1;deal run over at 1;");
    }

    private void tooFewCards() {
        of(4, "5 more HEAPS than CARDS, once all is told (the text's length)");
        for (int cards = 2; cards <= 6; cards++) {
            for (int heaps = 2; heaps <= 6; heaps++) {
                String text = "cards " + cards + ";heaps " + heaps + ";";
                String other = "heaps " + heaps + ";\ncards " + cards + "; ";
                fault(text, heaps > cards ? 5 : 0, heaps > cards ? 16 : -1);
                fault(other, heaps > cards ? 5 : 0, heaps > cards ? 18 : -1);
            }
        }
        fault("cards 2;", 5, 8);
        fault("cards 2; \n", 5, 10);
        good("cards 3;");
        good("heaps 6;");
        good("cards 2;wish 1;heaps 2;");
        fault("cards 2;heaps", 1, 13);
    }

    private void counted() {
        of(5, "0 CARDS, 1 HEAPS, 2 DEALS, 3 LIES, 4 WISH, 5 ANSWERS, 6 how many CARDS FIT, 7 bytes of the tape, 8 and 9 STATUS 0 and 1.");
        PileTricks most = Check.told("cards 60;heaps 6;lies 2;wish 59;" + "deal run over at 1;".repeat(8));
        most.feed(0, 0, 0, 0, 0);
        Check.trick(most, "");
        Check.trick(most, "!");
        Check.trick(most, "cards 60;heaps 6;lies 2;wish 59;" + "deal run over at 1;".repeat(8));
        for (int i = 0; i < 22; i++) {
            most.answer(2, 0, 0, 0);
        }
        for (int i = 0; i < 26; i++) {
            feedBlanks(most);
        }
        int[] counts = {60, 6, 8, 2, 59, 20, 10, 500, 1, 2};
        for (int what = 0; what < counts.length; what++) {
            int w = what;
            due("count(" + w + ")", counts[w], () -> most.count(w));
        }
        PileTricks none = Check.told("cards 4;heaps 4;");
        none.answer(2, 0, 0, 0);
        none.answer(2, 0, 1, 1);
        due("no card fits: count(6)", 0, () -> none.count(6));
        of(5, "NoSuchElementException: another what.");
        for (int what : new int[] {-1, 10, 11, LEAST, MOST}) {
            dueUnchanged("count(" + what + ")", thrown(NO_SUCH), none, () -> none.count(what));
        }
    }

    private void told() {
        of(6, "Of a DEAL that was told: 0 KIND, 1 SIDE, 2 its LAYING for a HEAP that is NAMED.");
        int[][] due = {{0, 0, 0, 0}, {2, 1, 0, 1}};
        PileTricks two = Check.told(SMALL);
        for (int i = 0; i < 4; i++) {
            int deal = i / 2;
            int named = i % 2;
            due("kind", due[deal][0], () -> two.told(deal, named, 0));
            due("side", due[deal][1], () -> two.told(deal, named, 1));
            due("laying", due[deal][2 + named], () -> two.told(deal, named, 2));
        }
        PileTricks eight = Check.told("deal turn under at 0;".repeat(7) + "deal fro over at 2;");
        due("the 8th", 1, () -> eight.told(7, 2, 0));
        due("the 8th", 1, () -> eight.told(7, 2, 1));
        due("the 8th", 2, () -> eight.told(7, 2, 2));
        for (int what = 0; what < 3; what++) {
            int w = what;
            of(6, "NoSuchElementException: no such DEAL");
            dueThrow("a 9th", NO_SUCH, () -> eight.told(8, 0, w));
            for (int deal : new int[] {-1, 2, 8, LEAST, MOST}) {
                noneTold(deal, 0, w);
            }
            of(6, "(it isn't counted)");
            dueThrow("no deals", NO_SUCH, () -> new PileTricks().told(0, 0, w));
            of(6, "no such HEAP (as everywhere)");
            for (int named : new int[] {-1, 2, 6, LEAST, MOST}) {
                noneTold(0, named, w);
            }
        }
        of(6, "another what.");
        for (int what : new int[] {-1, 3, LEAST, MOST}) {
            noneTold(0, 0, what);
        }
    }

    private void noneTold(int deal, int named, int what) {
        PileTricks x = Check.told(SMALL);
        dueUnchanged("told(" + deal + ", " + named + ", " + what + ")", thrown(NO_SUCH), x, () -> x.told(deal, named, what));
    }

    private void layings() {
        of(6, "A LAYING is what the RULE gives, MOD HEAPS (0 to HEAPS less 1, also of what is below 0).");
        for (int value = -13; value <= 13; value++) {
            gives(value < 0 ? "0-" + -value : Integer.toString(value), value);
        }
        gives("9999", 9999);
        gives("0-9999", -9999);
        gives("8192*8192*32", LEAST);
    }
}
