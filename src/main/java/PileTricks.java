import java.util.Arrays;
import java.util.NoSuchElementException;

/** The trick "which pile is it in": ../shared/DOC.md says what each call answers. */
public final class PileTricks {
    public static final int NONE = -1;

    private static final int SPENT = -2;
    private static final int MOST_SPENT = 5000;

    private static final int MOST_CARDS = 60;
    private static final int MOST_HEAPS = 6;
    private static final int MOST_DEALS = 8;
    private static final int MOST_BYTES = 500;
    private static final int MOST_ANSWERS = 20;
    private static final int MOST_ENDS = 60;
    private static final int MOST_WISHED = 5;
    private static final int MOST_WORST = 6;
    private static final int MOST_EVENINGS = 60;
    private static final int MOST_WEIGHED = 1000;

    private static final int KINDS = 3;
    private static final int TURN = 0;
    private static final int FRO = 1;
    private static final int RUN = 2;
    private static final int SIDES = 2;
    private static final int UNDER = 0;
    private static final int OVER = 1;
    private static final int BASE = 6;

    private static final int NO_FAULT = 0;
    private static final int MISPLACED = 1;
    private static final int TOO_MUCH = 2;
    private static final int NO_VALUE = 3;
    private static final int TOLD_TWICE = 4;
    private static final int TOO_FEW_CARDS = 5;

    private static final int CARDS_TOLD = 0;
    private static final int HEAPS_TOLD = 1;
    private static final int LIES_TOLD = 2;
    private static final int WISH_TOLD = 3;
    private static final int[] LEAST_TOLD = {2, 2, 0, 0};
    private static final int[] MOST_TOLD = {60, 6, 2, 59};
    private static final int[] TOLD_WITHOUT = {27, 3, 0, 0};

    // A rule is a row of numbers (0 on, themselves), values and operators (below 0), operands first.
    private static final int NO_CODE = 0;
    private static final int VALUE_DEAL = -1;
    private static final int VALUE_WISH = -2;
    private static final int VALUE_HEAPS = -3;
    private static final int VALUE_CARDS = -4;
    private static final int VALUE_NAMED = -5;
    private static final int VALUE_SIZE = -6;
    private static final int LAST_VALUE = VALUE_SIZE;
    private static final int OR = -7;
    private static final int AND = -8;
    private static final int NOT = -9;
    private static final int LESS = -10;
    private static final int EQUAL = -11;
    private static final int PLUS = -12;
    private static final int MINUS = -13;
    private static final int TIMES = -14;
    private static final int BY = -15;
    private static final int OPEN = -16;

    private final Tape tape;
    private final Reader reader;
    private final Dealer dealer;
    private final Setting setting;
    private final Wishes wishes;
    private final Guesses guesses;
    private final Table table;
    private final Table kept;
    private final int[] ends = new int[MOST_CARDS];
    private boolean imageKept = false;
    private int faultAt = NONE;
    private int faultyTexts = 0;
    private int refusedAnswers = 0;

    public PileTricks() {
        tape = new Tape();
        reader = new Reader(tape);
        dealer = new Dealer();
        setting = new Setting();
        wishes = new Wishes(setting, dealer);
        guesses = new Guesses(setting, dealer);
        table = new Table();
        kept = new Table();
        startAnew();
    }

    public int feed(int a, int b, int c, int d, int e) {
        if (tape.length + 20 > MOST_BYTES) {
            return NONE;
        }
        tape.append(a);
        tape.append(b);
        tape.append(c);
        tape.append(d);
        tape.append(e);
        return tape.length;
    }

    public int trick(int n) throws IllegalArgumentException {
        if (n < 0 || n > tape.length) {
            throw new IllegalArgumentException();
        }
        int found = reader.read(n);
        tape.length = 0;
        faultAt = reader.faultAt;
        if (found != NO_FAULT) {
            faultyTexts++;
            return found;
        }
        startAnew();
        return NO_FAULT;
    }

    public int fault() {
        return faultAt;
    }

    public int count(int what) throws NoSuchElementException {
        switch (what) {
            case 0: return setting.cards;
            case 1: return setting.heaps;
            case 2: return setting.deals;
            case 3: return setting.lies;
            case 4: return setting.wish;
            case 5: return table.answers;
            case 6: return Long.bitCount(table.fitting(setting));
            case 7: return tape.length;
            case 8: return faultyTexts;
            case 9: return refusedAnswers;
            default: throw new NoSuchElementException();
        }
    }

    public int told(int deal, int named, int what) throws NoSuchElementException {
        if (deal < 0 || deal >= setting.deals || !setting.hasHeap(named)) {
            throw new NoSuchElementException();
        }
        switch (what) {
            case 0: return setting.kindOf(deal);
            case 1: return setting.sideOf(deal);
            case 2: return setting.layingOf(deal, named);
            default: throw new NoSuchElementException();
        }
    }

    public int goes(int place, int i, int named) throws NoSuchElementException {
        if (!setting.hasPlace(place) || i < 0 || !setting.hasHeap(named)) {
            throw new NoSuchElementException();
        }
        dealer.hold(setting.kindOf(i), setting.sideOf(i));
        dealer.lay(setting.layingOf(i, named), named, named);
        return dealer.newPlace(place);
    }

    public int end(int place, int n) throws NoSuchElementException, IllegalArgumentException {
        if (!setting.hasPlace(place)) {
            throw new NoSuchElementException();
        }
        if (!isWithin(n, 0, MOST_ENDS)) {
            throw new IllegalArgumentException();
        }
        return setting.followedEnd(place, n);
    }

    public int sure(int n) throws IllegalArgumentException {
        if (!isWithin(n, 0, MOST_ENDS)) {
            throw new IllegalArgumentException();
        }
        startEnds();
        for (int i = 0; i < n; i++) {
            moveEnds(i);
        }
        return commonEnd();
    }

    public int soonest() {
        startEnds();
        for (int n = 0; n <= MOST_ENDS; n++) {
            if (commonEnd() != NONE) {
                return n;
            }
            moveEnds(n);
        }
        return NONE;
    }

    public int wished(int place, int n) throws NoSuchElementException, IllegalArgumentException {
        if (!setting.hasPlace(place)) {
            throw new NoSuchElementException();
        }
        if (!isWithin(n, 1, MOST_WISHED)) {
            throw new IllegalArgumentException();
        }
        int rows = wishes.rowsFor(place, n);
        if (rows > 0) {
            wishes.keepFirst();
        }
        return rows;
    }

    public int laying(int i) throws NoSuchElementException {
        if (i < 0 || i >= wishes.keptLength) {
            throw new NoSuchElementException();
        }
        return wishes.keptLaying(i);
    }

    public int fewest(int place) throws NoSuchElementException {
        if (!setting.hasPlace(place)) {
            throw new NoSuchElementException();
        }
        for (int n = 1; n <= MOST_WISHED; n++) {
            if (wishes.rowsFor(place, n) > 0) {
                return n;
            }
        }
        return NONE;
    }

    public long always(int kind, int side, int laying, int named) throws IllegalArgumentException {
        if (!setting.allows(kind, side, laying, named)) {
            throw new IllegalArgumentException();
        }
        dealer.hold(kind, side);
        dealer.lay(laying, named, named);
        long deals = 1;
        long seenPlaces = 0;
        for (int place = 0; place < setting.cards; place++) {
            if ((seenPlaces >>> place & 1) == 0) {
                long round = roundFrom(place);
                seenPlaces |= round;
                deals = leastCommonMultiple(deals, Long.bitCount(round));
            }
        }
        return deals;
    }

    public int two(int first, int second, int n) throws NoSuchElementException, IllegalArgumentException {
        if (!setting.hasPlace(first) || !setting.hasPlace(second)) {
            throw new NoSuchElementException();
        }
        if (!isWithin(n, 0, MOST_ENDS) || first == second) {
            throw new IllegalArgumentException();
        }
        int one = first;
        int other = second;
        for (int i = 0; i < n; i++) {
            dealer.hold(setting.kindOf(i), setting.sideOf(i));
            int named = dealer.heapAt(one);
            dealer.lay(setting.layingOf(i, named), named, dealer.heapAt(other));
            one = dealer.newPlace(one);
            other = dealer.newPlace(other);
        }
        return 60 * one + other;
    }

    public int worst(int n) throws IllegalArgumentException {
        if (!isWithin(n, 0, MOST_WORST)) {
            throw new IllegalArgumentException();
        }
        return power(setting.heaps, n) > MOST_SPENT ? SPENT : guesses.mostLeft(n);
    }

    public int card(int place) throws NoSuchElementException {
        if (!setting.hasPlace(place)) {
            throw new NoSuchElementException();
        }
        return at(table.pack, place);
    }

    public int answer(int kind, int side, int laying, int named) {
        if (table.answers >= MOST_ANSWERS || !setting.allows(kind, side, laying, named)) {
            refusedAnswers++;
            return NONE;
        }
        table.take(dealCode(kind, side, laying, named));
        table.dealLast(dealer, ends);
        return Long.bitCount(table.fitting(setting));
    }

    public int undo() {
        if (table.answers <= 0) {
            return NONE;
        }
        table.gatherLast(dealer, ends);
        table.answers--;
        return table.answers;
    }

    public int lies(int card) throws NoSuchElementException {
        if (!setting.hasPlace(card)) {
            throw new NoSuchElementException();
        }
        return at(table.falses, card);
    }

    public long fits() {
        return table.fitting(setting);
    }

    public void see() {
        copy(table.pack, table.seen);
    }

    public int between(int what) throws NoSuchElementException {
        if (what != 0 && what != 1) {
            throw new NoSuchElementException();
        }
        int found = 0;
        int first = NONE;
        for (int code = 0; code < KINDS * BASE * BASE * BASE; code++) {
            if (isDeal(code) && table.comesBy(code, dealer)) {
                found++;
                first = first == NONE ? code : first;
            }
        }
        return what == 0 ? found : first;
    }

    public int evenings(int seed, int evenings, int n) throws IllegalArgumentException {
        if (!isWithin(evenings, 0, MOST_EVENINGS) || !isWithin(n, 0, MOST_ENDS)) {
            throw new IllegalArgumentException();
        }
        int drawn = seed;
        int met = 0;
        for (int evening = 0; evening < evenings; evening++) {
            drawn = drawn * 1103515245 + 12345;
            int place = rest(drawn >>> 16 & 0x7fff, setting.cards);
            if (setting.followedEnd(place, n) == setting.wish) {
                met++;
            }
        }
        return met;
    }

    public int weighings(int cards, boolean known) throws IllegalArgumentException {
        if (!isWithin(cards, 1, MOST_WEIGHED)) {
            throw new IllegalArgumentException();
        }
        if (!known && cards < 3) {
            return NONE;
        }
        // Of an unknown kind each card has two ways to be the one, and three outcomes go to waste.
        int needed = known ? cards : 2 * cards + 3;
        int outcomes = 1;
        for (int n = 0; n < MOST_WEIGHED; n++) {
            if (outcomes >= needed) {
                return n;
            }
            outcomes *= 3;
        }
        return NONE;
    }

    public void image() {
        kept.copyFrom(table);
        imageKept = true;
    }

    public boolean restore() {
        if (imageKept) {
            table.copyFrom(kept);
        }
        return imageKept;
    }

    private void startAnew() {
        setting.takeOver(reader, dealer);
        table.layOut();
        wishes.keptLength = 0;
        imageKept = false;
    }

    private void startEnds() {
        for (int place = 0; place < ends.length; place++) {
            ends[place] = place;
        }
    }

    private void moveEnds(int deal) {
        for (int place = 0; place < setting.cards; place++) {
            put(ends, place, setting.followedTo(deal, at(ends, place)));
        }
    }

    private int commonEnd() {
        int common = at(ends, 0);
        for (int place = 1; place < setting.cards; place++) {
            if (at(ends, place) != common) {
                return NONE;
            }
        }
        return common;
    }

    /** The places, as bits, that a card comes round to by the deal that is laid, from a place on. */
    private long roundFrom(int place) {
        long round = 1L << place;
        int next = dealer.newPlace(place);
        for (int i = 0; i < MOST_CARDS && next != place; i++) {
            round |= 1L << next;
            next = dealer.newPlace(next);
        }
        return round;
    }

    private boolean isDeal(int code) {
        return setting.allows(figure(code, 3), figure(code, 2), figure(code, 1), figure(code, 0));
    }

    private static int dealCode(int kind, int side, int laying, int named) {
        return ((kind * BASE + side) * BASE + laying) * BASE + named;
    }

    /** A figure of a number to the base 6, figure 0 being the lowest. */
    private static int figure(int number, int which) {
        int left = number;
        for (int i = 0; i < which; i++) {
            left /= BASE;
        }
        return left % BASE;
    }

    private static boolean isWithin(int number, int least, int most) {
        return number >= least && number <= most;
    }

    private static int power(int base, int n) {
        int product = 1;
        for (int i = 0; i < n; i++) {
            product *= base;
        }
        return product;
    }

    private static long leastCommonMultiple(long a, long b) {
        long divisor = a;
        long left = b;
        for (int i = 0; i < MOST_CARDS && left > 0; i++) {
            long next = divisor % left;
            divisor = left;
            left = next;
        }
        return divisor > 0 ? a / divisor * b : a;
    }

    private static int rest(int number, int divisor) {
        return divisor > 0 ? Math.floorMod(number, divisor) : 0;
    }

    private static int share(int number, int divisor) {
        return divisor > 0 ? number / divisor : 0;
    }

    private static int at(int[] row, int i) {
        return i >= 0 && i < row.length ? row[i] : 0;
    }

    private static void put(int[] row, int i, int number) {
        if (i >= 0 && i < row.length) {
            row[i] = number;
        }
    }

    private static void copy(int[] from, int[] to) {
        System.arraycopy(from, 0, to, 0, Math.min(from.length, to.length));
    }

    /** The words that a text may have, and what those that are VALUES are in a rule. */
    private enum Word {
        CARDS("cards", VALUE_CARDS), HEAPS("heaps", VALUE_HEAPS), LIES("lies", NO_CODE),
        WISH("wish", VALUE_WISH), DEAL("deal", VALUE_DEAL), NAMED("named", VALUE_NAMED),
        SIZE("size", VALUE_SIZE), TURN("turn", NO_CODE), FRO("fro", NO_CODE), RUN("run", NO_CODE),
        UNDER("under", NO_CODE), OVER("over", NO_CODE), AT("at", NO_CODE), OR("or", NO_CODE),
        AND("and", NO_CODE), NOT("not", NO_CODE), OTHER("", NO_CODE);

        private static final Word[] ALL = values();

        private final String spelled;
        private final int value;

        Word(String spelled, int value) {
            this.spelled = spelled;
            this.value = value;
        }
    }

    /** The bytes that were fed, and the TOKEN at which their reading stands. */
    private static final class Tape {
        private static final int ENDED = 0;
        private static final int WORD = 1;
        private static final int NUMBER = 2;
        private static final int SIGN = 3;
        private static final int MOST_DIGITS = 4;

        private final byte[] bytes = new byte[MOST_BYTES];
        private int length = 0;
        private int textEnd = 0;
        private int next = 0;
        private int start = 0;
        private int type = ENDED;
        private Word word = Word.OTHER;
        private int number = 0;
        private int sign = 0;

        private void append(int four) {
            for (int shift = 24; shift >= 0; shift -= 8) {
                if (length < bytes.length) {
                    bytes[length] = (byte) (four >> shift);
                    length++;
                }
            }
        }

        private void openText(int n) {
            textEnd = Math.min(n, length);
            next = 0;
            advance();
        }

        private void advance() {
            while (next < textEnd && isBlank(byteAt(next))) {
                next++;
            }
            start = next;
            word = Word.OTHER;
            number = 0;
            sign = 0;
            if (start >= textEnd) {
                type = ENDED;
            } else if (isLetter(byteAt(start))) {
                takeWord();
            } else if (isDigit(byteAt(start))) {
                takeNumber();
            } else {
                // A byte that is no token goes as a sign that can stand nowhere: the fault is the same.
                type = SIGN;
                sign = byteAt(start);
                next++;
            }
        }

        private void takeWord() {
            type = WORD;
            while (next < textEnd && isLetter(byteAt(next))) {
                next++;
            }
            for (int i = 0; i < Word.ALL.length && word == Word.OTHER; i++) {
                if (isSpelled(Word.ALL[i].spelled)) {
                    word = Word.ALL[i];
                }
            }
        }

        private void takeNumber() {
            type = NUMBER;
            while (next < textEnd && isDigit(byteAt(next))) {
                if (next - start < MOST_DIGITS) {
                    number = 10 * number + byteAt(next) - '0';
                }
                next++;
            }
        }

        private boolean isLongNumber() {
            return type == NUMBER && next - start > MOST_DIGITS;
        }

        private boolean isSpelled(String spelled) {
            if (spelled.length() != next - start) {
                return false;
            }
            for (int i = 0; i < spelled.length(); i++) {
                if (spelled.charAt(i) != byteAt(start + i)) {
                    return false;
                }
            }
            return true;
        }

        private int byteAt(int i) {
            return i >= 0 && i < textEnd && i < bytes.length ? bytes[i] & 255 : NONE;
        }

        private static boolean isBlank(int b) {
            return b == 32 || b == 10;
        }

        private static boolean isLetter(int b) {
            return b >= 'a' && b <= 'z';
        }

        private static boolean isDigit(int b) {
            return b >= '0' && b <= '9';
        }
    }

    /** Reads a text; what it told stands here until the next one is read. */
    private static final class Reader {
        private final Tape tape;
        private final Rules rules;
        private final int[] numbers = new int[4];
        private final boolean[] given = new boolean[4];
        private final int[] kinds = new int[MOST_DEALS];
        private final int[] sides = new int[MOST_DEALS];
        private int deals = 0;
        private int faultAt = NONE;

        private Reader(Tape tape) {
            this.tape = tape;
            rules = new Rules(tape);
            forget();
        }

        private void forget() {
            copy(TOLD_WITHOUT, numbers);
            for (int i = 0; i < given.length; i++) {
                given[i] = false;
            }
            deals = 0;
            rules.length = 0;
        }

        private int read(int n) {
            forget();
            tape.openText(n);
            int fault = NO_FAULT;
            for (int i = 0; i < MOST_BYTES && fault == NO_FAULT && tape.type != Tape.ENDED; i++) {
                int which = numberTold(tape.word);
                if (which != NONE) {
                    fault = readNumber(which);
                } else {
                    fault = tape.word == Word.DEAL ? readDeal() : MISPLACED;
                }
            }
            if (fault == NO_FAULT && at(numbers, HEAPS_TOLD) > at(numbers, CARDS_TOLD)) {
                fault = TOO_FEW_CARDS;
            }
            faultAt = fault == NO_FAULT ? NONE : tape.start;
            return fault;
        }

        private int readNumber(int which) {
            if (which < 0 || which >= given.length || given[which]) {
                return TOLD_TWICE;
            }
            given[which] = true;
            tape.advance();
            if (tape.type != Tape.NUMBER) {
                return MISPLACED;
            }
            if (tape.isLongNumber() || !isWithin(tape.number, at(LEAST_TOLD, which), at(MOST_TOLD, which))) {
                return TOO_MUCH;
            }
            put(numbers, which, tape.number);
            tape.advance();
            return readLineEnd();
        }

        private int readDeal() {
            if (deals >= MOST_DEALS) {
                return TOO_MUCH;
            }
            tape.advance();
            int kind = kindTold(tape.word);
            if (kind == NONE) {
                return MISPLACED;
            }
            tape.advance();
            int side = sideTold(tape.word);
            if (side == NONE) {
                return MISPLACED;
            }
            tape.advance();
            if (tape.word != Word.AT) {
                return MISPLACED;
            }
            tape.advance();
            int fault = rules.readRule(deals);
            if (fault != NO_FAULT) {
                return fault;
            }
            put(kinds, deals, kind);
            put(sides, deals, side);
            deals++;
            return readLineEnd();
        }

        private int readLineEnd() {
            if (tape.sign != ';') {
                return MISPLACED;
            }
            tape.advance();
            return NO_FAULT;
        }

        private static int numberTold(Word word) {
            if (word == Word.CARDS) {
                return CARDS_TOLD;
            }
            if (word == Word.HEAPS) {
                return HEAPS_TOLD;
            }
            if (word == Word.LIES) {
                return LIES_TOLD;
            }
            return word == Word.WISH ? WISH_TOLD : NONE;
        }

        private static int kindTold(Word word) {
            if (word == Word.TURN) {
                return TURN;
            }
            if (word == Word.FRO) {
                return FRO;
            }
            return word == Word.RUN ? RUN : NONE;
        }

        private static int sideTold(Word word) {
            if (word == Word.UNDER) {
                return UNDER;
            }
            return word == Word.OVER ? OVER : NONE;
        }
    }

    /** The RULES of a text: read with a row of operators that wait, kept operands first, worked out. */
    private static final class Rules {
        private static final int MOST_DEPTH = 6;
        private static final int MOST_NOTS = 6;
        private static final int MOST_WAITING = 100;
        private static final int MOST_PENDING = 50;

        private final Tape tape;
        private final int[] code = new int[MOST_BYTES];
        private final int[] codeEnds = new int[MOST_DEALS];
        private final int[] waiting = new int[MOST_WAITING];
        private final boolean[] compared = new boolean[MOST_DEPTH + 1];
        private final int[] values = new int[-LAST_VALUE];
        private final int[] pending = new int[MOST_PENDING];
        private int length = 0;
        private int waits = 0;
        private int depth = 0;
        private int nots = 0;
        private boolean notMayStand = true;
        private boolean partIsDue = true;
        private boolean closed = false;

        private Rules(Tape tape) {
            this.tape = tape;
        }

        /** Reads an EXPR up to the ';' behind it, at which the tape stands then. */
        private int readRule(int deal) {
            waits = 0;
            depth = 0;
            closed = false;
            openExpr();
            for (int i = 0; i <= MOST_BYTES && !closed; i++) {
                int fault = partIsDue ? readPart() : readBehindPart();
                if (fault != NO_FAULT) {
                    return fault;
                }
                if (!closed) {
                    tape.advance();
                }
            }
            put(codeEnds, deal, length);
            return NO_FAULT;
        }

        private void openExpr() {
            setCompared(false);
            openNot();
        }

        private void openNot() {
            partIsDue = true;
            notMayStand = true;
            nots = 0;
        }

        private int readPart() {
            boolean opens = tape.sign == '(';
            if (!opens && tape.type != Tape.NUMBER && tape.type != Tape.WORD) {
                return MISPLACED;
            }
            if (depth >= MOST_DEPTH) {
                return TOO_MUCH;
            }
            if (opens) {
                await(OPEN);
                depth++;
                openExpr();
                return NO_FAULT;
            }
            if (tape.word == Word.NOT && notMayStand) {
                return readNot();
            }
            return tape.type == Tape.NUMBER ? readNumberPart() : readValue();
        }

        private int readNot() {
            if (nots >= MOST_NOTS) {
                return TOO_MUCH;
            }
            nots++;
            await(NOT);
            return NO_FAULT;
        }

        private int readNumberPart() {
            if (tape.isLongNumber()) {
                return TOO_MUCH;
            }
            write(tape.number);
            partIsDue = false;
            return NO_FAULT;
        }

        private int readValue() {
            if (tape.word.value == NO_CODE) {
                return NO_VALUE;
            }
            write(tape.word.value);
            partIsDue = false;
            return NO_FAULT;
        }

        private int readBehindPart() {
            if (tape.sign == ';') {
                return closeRule();
            }
            if (tape.sign == ')') {
                return closeExpr();
            }
            int operator = operatorThere();
            if (operator == NO_CODE) {
                return MISPLACED;
            }
            if (operator == LESS || operator == EQUAL) {
                if (isCompared()) {
                    return MISPLACED;
                }
                setCompared(true);
            }
            writeWaiting(bindingOf(operator));
            await(operator);
            openNot();
            if (operator == AND || operator == OR) {
                setCompared(false);
            } else {
                notMayStand = false;
            }
            return NO_FAULT;
        }

        private int closeRule() {
            if (depth > 0) {
                return MISPLACED;
            }
            writeWaiting(bindingOf(OR));
            closed = true;
            return NO_FAULT;
        }

        private int closeExpr() {
            if (depth <= 0) {
                return MISPLACED;
            }
            writeWaiting(bindingOf(OR));
            waits = Math.max(waits - 1, 0);
            depth--;
            return NO_FAULT;
        }

        private int operatorThere() {
            if (tape.word == Word.OR) {
                return OR;
            }
            if (tape.word == Word.AND) {
                return AND;
            }
            switch (tape.sign) {
                case '<': return LESS;
                case '=': return EQUAL;
                case '+': return PLUS;
                case '-': return MINUS;
                case '*': return TIMES;
                case '/': return BY;
                default: return NO_CODE;
            }
        }

        private static int bindingOf(int operator) {
            switch (operator) {
                case OR: return 1;
                case AND: return 2;
                case NOT: return 3;
                case LESS:
                case EQUAL: return 4;
                case PLUS:
                case MINUS: return 5;
                case TIMES:
                case BY: return 6;
                default: return 0;
            }
        }

        private void await(int operator) {
            if (waits < waiting.length) {
                waiting[waits] = operator;
                waits++;
            }
        }

        /** Writes those that wait, the last first, as far as they bind at least so closely. */
        private void writeWaiting(int binding) {
            while (waits > 0 && bindingOf(at(waiting, waits - 1)) >= binding) {
                waits--;
                write(at(waiting, waits));
            }
        }

        private void write(int one) {
            if (length < code.length) {
                code[length] = one;
                length++;
            }
        }

        private boolean isCompared() {
            return depth >= 0 && depth < compared.length && compared[depth];
        }

        private void setCompared(boolean is) {
            if (depth >= 0 && depth < compared.length) {
                compared[depth] = is;
            }
        }

        private void setValue(int value, int number) {
            put(values, -1 - value, number);
        }

        /** What a DEAL's RULE gives with the values that were set. */
        private int workOut(int deal) {
            int top = 0;
            for (int i = deal > 0 ? at(codeEnds, deal - 1) : 0; i < at(codeEnds, deal); i++) {
                int one = at(code, i);
                if (one >= 0) {
                    put(pending, top, one);
                    top++;
                } else if (one >= LAST_VALUE) {
                    put(pending, top, at(values, -1 - one));
                    top++;
                } else if (one == NOT) {
                    put(pending, top - 1, truth(at(pending, top - 1) == 0));
                } else {
                    top--;
                    put(pending, top - 1, joined(one, at(pending, top - 1), at(pending, top)));
                }
            }
            return at(pending, 0);
        }

        private static int joined(int operator, int a, int b) {
            switch (operator) {
                case OR: return truth(a != 0 || b != 0);
                case AND: return truth(a != 0 && b != 0);
                case LESS: return truth(a < b);
                case EQUAL: return truth(a == b);
                case PLUS: return a + b;
                case MINUS: return a - b;
                case TIMES: return a * b;
                default: return b != 0 ? a / b : 0;
            }
        }

        private static int truth(boolean holds) {
            return holds ? 1 : 0;
        }
    }

    /** What the latest good text tells, once its rules are worked out. */
    private static final class Setting {
        private final int[] kinds = new int[MOST_DEALS];
        private final int[] sides = new int[MOST_DEALS];
        private final int[] layings = new int[MOST_DEALS * MOST_HEAPS];
        private final int[] followed = new int[MOST_DEALS * MOST_CARDS];
        private int cards = 0;
        private int heaps = 0;
        private int lies = 0;
        private int wish = 0;
        private int deals = 0;
        private int rounds = 1;

        private void takeOver(Reader reader, Dealer dealer) {
            cards = at(reader.numbers, CARDS_TOLD);
            heaps = at(reader.numbers, HEAPS_TOLD);
            lies = at(reader.numbers, LIES_TOLD);
            wish = at(reader.numbers, WISH_TOLD);
            deals = reader.deals;
            dealer.fit(cards, heaps);
            if (deals > 0) {
                takeDeals(reader, dealer);
            } else {
                takeDealOfNone();
            }
            for (int deal = 0; deal < rounds; deal++) {
                follow(deal, dealer);
            }
        }

        private void takeDeals(Reader reader, Dealer dealer) {
            rounds = deals;
            copy(reader.kinds, kinds);
            copy(reader.sides, sides);
            Rules rules = reader.rules;
            rules.setValue(VALUE_WISH, wish);
            rules.setValue(VALUE_HEAPS, heaps);
            rules.setValue(VALUE_CARDS, cards);
            for (int deal = 0; deal < deals; deal++) {
                rules.setValue(VALUE_DEAL, deal);
                for (int named = 0; named < heaps; named++) {
                    rules.setValue(VALUE_NAMED, named);
                    rules.setValue(VALUE_SIZE, dealer.sizeOf(at(kinds, deal), named));
                    put(layings, deal * MOST_HEAPS + named, rest(rules.workOut(deal), heaps));
                }
            }
        }

        /** A text without deals is as if it told: deal turn over at heaps/2. */
        private void takeDealOfNone() {
            rounds = 1;
            put(kinds, 0, TURN);
            put(sides, 0, OVER);
            for (int named = 0; named < heaps; named++) {
                put(layings, named, heaps / 2);
            }
        }

        private void follow(int deal, Dealer dealer) {
            dealer.hold(kindOf(deal), sideOf(deal));
            for (int heap = 0; heap < heaps; heap++) {
                dealer.layOwn(heap, layingOf(deal, heap));
            }
            for (int place = 0; place < cards; place++) {
                put(followed, deal * MOST_CARDS + place, dealer.newPlace(place));
            }
        }

        private int kindOf(int i) {
            return at(kinds, rest(i, rounds));
        }

        private int sideOf(int i) {
            return at(sides, rest(i, rounds));
        }

        private int layingOf(int i, int named) {
            return at(layings, rest(i, rounds) * MOST_HEAPS + named);
        }

        private int followedTo(int i, int place) {
            return at(followed, rest(i, rounds) * MOST_CARDS + place);
        }

        private int followedEnd(int place, int n) {
            int there = place;
            for (int i = 0; i < n; i++) {
                there = followedTo(i, there);
            }
            return there;
        }

        private boolean hasPlace(int place) {
            return isWithin(place, 0, cards - 1);
        }

        private boolean hasHeap(int heap) {
            return isWithin(heap, 0, heaps - 1);
        }

        private boolean allows(int kind, int side, int laying, int named) {
            return isWithin(kind, 0, KINDS - 1) && isWithin(side, 0, SIDES - 1)
                && hasHeap(laying) && hasHeap(named);
        }
    }

    /** Deals a pack in heaps and lays them together: first hold, then lay, then ask for places. */
    private static final class Dealer {
        private final int[] heapOf = new int[KINDS * MOST_CARDS];
        private final int[] cameAs = new int[KINDS * MOST_CARDS];
        private final int[] sizes = new int[KINDS * MOST_HEAPS];
        private final int[] starts = new int[MOST_HEAPS];
        private int cards = 0;
        private int heaps = 0;
        private int kind = TURN;
        private int side = UNDER;

        private void fit(int cards, int heaps) {
            this.cards = cards;
            this.heaps = heaps;
            Arrays.fill(sizes, 0);
            for (int each = 0; each < KINDS; each++) {
                for (int place = 0; place < cards; place++) {
                    int heap = heapBy(each, place);
                    int size = sizeOf(each, heap);
                    put(heapOf, each * MOST_CARDS + place, heap);
                    put(cameAs, each * MOST_CARDS + place, size);
                    put(sizes, each * MOST_HEAPS + heap, size + 1);
                }
            }
        }

        private int heapBy(int kind, int place) {
            if (kind == TURN) {
                return rest(place, heaps);
            }
            if (kind == FRO) {
                int q = rest(place, 2 * heaps);
                return q < heaps ? q : 2 * heaps - 1 - q;
            }
            int size = share(cards, heaps);
            int larger = rest(cards, heaps);
            int inLarger = larger * (size + 1);
            return place < inLarger ? share(place, size + 1) : larger + share(place - inLarger, size);
        }

        private void hold(int kind, int side) {
            this.kind = kind;
            this.side = side;
        }

        /** Lays the heap that is named, and right below it a second one that may be the same. */
        private void lay(int laying, int named, int second) {
            int above = 0;
            int laid = 0;
            for (int heap = 0; heap < heaps; heap++) {
                if (heap != named && heap != second) {
                    if (laid == laying) {
                        above = layNamed(above, named, second);
                    }
                    above = layHeap(above, heap);
                    laid++;
                }
            }
            if (laid <= laying) {
                layNamed(above, named, second);
            }
        }

        private int layNamed(int above, int named, int second) {
            int below = layHeap(above, named);
            return named == second ? below : layHeap(below, second);
        }

        private int layHeap(int above, int heap) {
            put(starts, heap, above);
            return above + at(sizes, kind * MOST_HEAPS + heap);
        }

        /** Lays a heap where it lies when it is the one that is named; all others are left. */
        private void layOwn(int heap, int laying) {
            int above = 0;
            int laid = 0;
            for (int other = 0; other < heaps && laid < laying; other++) {
                if (other != heap) {
                    above += sizeOf(kind, other);
                    laid++;
                }
            }
            put(starts, heap, above);
        }

        private int heapAt(int place) {
            return at(heapOf, kind * MOST_CARDS + place);
        }

        private int sizeOf(int kind, int heap) {
            return at(sizes, kind * MOST_HEAPS + heap);
        }

        private int newPlace(int place) {
            int heap = heapAt(place);
            int came = at(cameAs, kind * MOST_CARDS + place);
            int above = side == UNDER ? came : sizeOf(kind, heap) - 1 - came;
            return at(starts, heap) + above;
        }
    }

    /** Rows of LAYINGS by which all places end at one: sought from the last deal to the first. */
    private static final class Wishes {
        private final Setting setting;
        private final Dealer dealer;
        private int deals = 0;
        private int rows = 0;
        private int firstRow = 0;
        private int keptRow = 0;
        private int keptLength = 0;

        private Wishes(Setting setting, Dealer dealer) {
            this.setting = setting;
            this.dealer = dealer;
        }

        private int rowsFor(int place, int n) {
            deals = n;
            rows = 0;
            firstRow = 0;
            seek(n - 1, 1L << place, 0, 1);
            return rows;
        }

        private void keepFirst() {
            keptRow = firstRow;
            keptLength = deals;
        }

        private int keptLaying(int i) {
            return figure(keptRow, keptLength - 1 - i);
        }

        /** Of a row the last deal's laying is the lowest figure; weight is that of this deal's. */
        private void seek(int deal, long wanted, int row, int weight) {
            if (deal < 0) {
                firstRow = rows == 0 ? row : Math.min(firstRow, row);
                rows++;
                return;
            }
            int reach = power(setting.heaps, deal);
            for (int laying = 0; laying < setting.heaps; laying++) {
                long from = comesFrom(deal, laying, wanted);
                // Each deal ahead gathers at most one place a heap: fewer can't have all places behind them.
                if (Long.bitCount(from) * reach >= setting.cards) {
                    seek(deal - 1, from, row + laying * weight, weight * BASE);
                }
            }
        }

        /** The places, as bits, from which a followed card comes to a wanted one. */
        private long comesFrom(int deal, int laying, long wanted) {
            dealer.hold(setting.kindOf(deal), setting.sideOf(deal));
            for (int heap = 0; heap < setting.heaps; heap++) {
                dealer.layOwn(heap, laying);
            }
            long from = 0;
            for (int place = 0; place < setting.cards; place++) {
                from |= (wanted >>> dealer.newPlace(place) & 1) << place;
            }
            return from;
        }
    }

    /** The most cards that may be left behind some deals, by all rows of names. */
    private static final class Guesses {
        private static final int FALSE = 64;

        private final Setting setting;
        private final Dealer dealer;
        // For each deal, the cards that still may be: the place of each, and FALSE for each lie.
        private final int[] left = new int[(MOST_WORST + 1) * MOST_CARDS];
        private int deals = 0;
        private int most = 0;

        private Guesses(Setting setting, Dealer dealer) {
            this.setting = setting;
            this.dealer = dealer;
        }

        private int mostLeft(int n) {
            deals = n;
            most = 0;
            for (int place = 0; place < setting.cards; place++) {
                put(left, place, place);
            }
            nameAll(0, setting.cards);
            return most;
        }

        private void nameAll(int deal, int cards) {
            if (cards <= most) {
                return;
            }
            if (deal >= deals) {
                most = cards;
                return;
            }
            for (int named = 0; named < setting.heaps; named++) {
                nameAll(deal + 1, leftBehind(deal, cards, named));
            }
        }

        private int leftBehind(int deal, int cards, int named) {
            dealer.hold(setting.kindOf(deal), setting.sideOf(deal));
            dealer.lay(setting.layingOf(deal, named), named, named);
            int kept = 0;
            for (int i = 0; i < cards; i++) {
                int one = at(left, deal * MOST_CARDS + i);
                int place = one % FALSE;
                int lies = one / FALSE + (dealer.heapAt(place) == named ? 0 : 1);
                if (lies <= setting.lies) {
                    put(left, (deal + 1) * MOST_CARDS + kept, lies * FALSE + dealer.newPlace(place));
                    kept++;
                }
            }
            return kept;
        }
    }

    /** The pack at the table, the answers given with it, and the pack as it was seen. */
    private static final class Table {
        private final int[] pack = new int[MOST_CARDS];
        private final int[] seen = new int[MOST_CARDS];
        private final int[] falses = new int[MOST_CARDS];
        private final int[] codes = new int[MOST_ANSWERS];
        private int answers = 0;

        private void layOut() {
            for (int place = 0; place < pack.length; place++) {
                pack[place] = place;
            }
            copy(pack, seen);
            Arrays.fill(falses, 0);
            answers = 0;
        }

        private void copyFrom(Table other) {
            copy(other.pack, pack);
            copy(other.seen, seen);
            copy(other.falses, falses);
            copy(other.codes, codes);
            answers = other.answers;
        }

        private void take(int code) {
            put(codes, answers, code);
            answers++;
        }

        private void dealLast(Dealer dealer, int[] spare) {
            int code = at(codes, answers - 1);
            layBy(code, dealer);
            copy(pack, spare);
            for (int place = 0; place < dealer.cards; place++) {
                int card = at(spare, place);
                put(pack, dealer.newPlace(place), card);
                put(falses, card, at(falses, card) + falseAt(place, code, dealer));
            }
        }

        private void gatherLast(Dealer dealer, int[] spare) {
            int code = at(codes, answers - 1);
            layBy(code, dealer);
            copy(pack, spare);
            for (int place = 0; place < dealer.cards; place++) {
                int card = at(spare, dealer.newPlace(place));
                put(pack, place, card);
                put(falses, card, at(falses, card) - falseAt(place, code, dealer));
            }
        }

        private boolean comesBy(int code, Dealer dealer) {
            layBy(code, dealer);
            for (int place = 0; place < dealer.cards; place++) {
                if (at(pack, dealer.newPlace(place)) != at(seen, place)) {
                    return false;
                }
            }
            return true;
        }

        private long fitting(Setting setting) {
            long bits = 0;
            for (int card = 0; card < setting.cards; card++) {
                if (at(falses, card) <= setting.lies) {
                    bits |= 1L << card;
                }
            }
            return bits;
        }

        private static void layBy(int code, Dealer dealer) {
            dealer.hold(figure(code, 3), figure(code, 2));
            dealer.lay(figure(code, 1), figure(code, 0), figure(code, 0));
        }

        private static int falseAt(int place, int code, Dealer dealer) {
            return dealer.heapAt(place) == figure(code, 0) ? 0 : 1;
        }
    }
}
