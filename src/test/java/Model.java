import java.nio.charset.StandardCharsets;
import java.util.ArrayList;
import java.util.Arrays;
import java.util.Collections;
import java.util.List;
import java.util.NoSuchElementException;

/**
 * The document once more, as slowly and as literally as can be: cards really lie in lists, all rows are
 * tried, a text is read by recursive descent. It shares nothing with the class under test.
 */
final class Model {
    interface Rule {
        int give(int deal, int named, int size);
    }

    static final class Fault extends Exception {
        private static final long serialVersionUID = 1;
        final int number;
        final int place;

        Fault(int number, int place) {
            this.number = number;
            this.place = place;
        }
    }

    record Deal(int kind, int side, Rule rule) { }

    record Answer(List<Integer> before, List<Integer> named) { }

    record Image(List<Integer> pack, List<Answer> answers, List<Integer> seen) { }

    private int cards = 27;
    private int heaps = 3;
    private int lies = 0;
    private int wish = 0;
    private List<Deal> deals = new ArrayList<>();
    private byte[] tape = new byte[0];
    private int faultPlace = -1;
    private int faulty = 0;
    private int refused = 0;
    private List<Integer> pack = ordered(27);
    private List<Integer> seen = ordered(27);
    private List<Answer> answers = new ArrayList<>();
    private int[] found = null;
    private Image image = null;

    private static List<Integer> ordered(int cards) {
        List<Integer> row = new ArrayList<>();
        for (int i = 0; i < cards; i++) {
            row.add(i);
        }
        return row;
    }

    // ---- texts

    int feed(int... words) {
        if (tape.length + 20 > 500) {
            return -1;
        }
        int from = tape.length;
        tape = Arrays.copyOf(tape, from + 20);
        for (int i = 0; i < 20; i++) {
            tape[from + i] = (byte) (words[i / 4] >> (24 - 8 * (i % 4)));
        }
        return tape.length;
    }

    int trick(int n) {
        if (n < 0 || n > tape.length) {
            throw new IllegalArgumentException();
        }
        byte[] text = Arrays.copyOf(tape, n);
        tape = new byte[0];
        try {
            Parser parser = new Parser(text);
            parser.all();
            cards = parser.cards;
            heaps = parser.heaps;
            lies = parser.lies;
            wish = parser.wish;
            deals = parser.deals;
            pack = ordered(cards);
            seen = ordered(cards);
            answers = new ArrayList<>();
            found = null;
            image = null;
            faultPlace = -1;
            return 0;
        } catch (Fault fault) {
            faulty++;
            faultPlace = fault.place;
            return fault.number;
        }
    }

    int fault() {
        return faultPlace;
    }

    static final class Parser {
        final List<String> tokens = new ArrayList<>();
        final List<Integer> places = new ArrayList<>();
        final int length;
        int at = 0;
        int cards = -1;
        int heaps = -1;
        int lies = -1;
        int wish = -1;
        final List<Deal> deals = new ArrayList<>();

        Parser(byte[] text) {
            length = text.length;
            String s = new String(text, StandardCharsets.ISO_8859_1);
            int i = 0;
            while (i < length) {
                char c = s.charAt(i);
                int end = i + 1;
                if (c == ' ' || c == '\n') {
                    i++;
                    continue;
                }
                if (c >= 'a' && c <= 'z') {
                    while (end < length && s.charAt(end) >= 'a' && s.charAt(end) <= 'z') {
                        end++;
                    }
                } else if (c >= '0' && c <= '9') {
                    while (end < length && s.charAt(end) >= '0' && s.charAt(end) <= '9') {
                        end++;
                    }
                }
                tokens.add(s.substring(i, end));
                places.add(i);
                i = end;
            }
            tokens.add("");
            places.add(length);
        }

        String token() {
            return tokens.get(at);
        }

        boolean isNumber() {
            return token().matches("[0-9]+");
        }

        boolean isWord() {
            return token().matches("[a-z]+");
        }

        Fault fail(int number) {
            return new Fault(number, places.get(at));
        }

        void must(String wanted) throws Fault {
            if (!token().equals(wanted)) {
                throw fail(1);
            }
            at++;
        }

        int oneOf(String... words) throws Fault {
            int i = Arrays.asList(words).indexOf(token());
            if (i < 0) {
                throw fail(1);
            }
            at++;
            return i;
        }

        void all() throws Fault {
            while (!token().isEmpty()) {
                line();
                must(";");
            }
            cards = cards < 0 ? 27 : cards;
            heaps = heaps < 0 ? 3 : heaps;
            lies = Math.max(lies, 0);
            wish = Math.max(wish, 0);
            if (heaps > cards) {
                throw new Fault(5, length);
            }
        }

        void line() throws Fault {
            switch (token()) {
                case "cards" -> cards = number(cards, 2, 60);
                case "heaps" -> heaps = number(heaps, 2, 6);
                case "lies" -> lies = number(lies, 0, 2);
                case "wish" -> wish = number(wish, 0, 59);
                case "deal" -> deal();
                default -> throw fail(1);
            }
        }

        int number(int before, int least, int most) throws Fault {
            if (before >= 0) {
                throw fail(4);
            }
            at++;
            if (!isNumber()) {
                throw fail(1);
            }
            if (token().length() > 4 || Integer.parseInt(token()) < least || Integer.parseInt(token()) > most) {
                throw fail(2);
            }
            return Integer.parseInt(tokens.get(at++));
        }

        void deal() throws Fault {
            if (deals.size() == 8) {
                throw fail(2);
            }
            at++;
            int kind = oneOf("turn", "fro", "run");
            int side = oneOf("under", "over");
            must("at");
            deals.add(new Deal(kind, side, expr(0)));
        }

        Rule expr(int within) throws Fault {
            if (within == 6 && (isNumber() || isWord() || token().equals("("))) {
                throw fail(2);
            }
            Rule left = and(within);
            while (token().equals("or")) {
                at++;
                Rule a = left;
                Rule b = and(within);
                left = (d, n, s) -> a.give(d, n, s) != 0 | b.give(d, n, s) != 0 ? 1 : 0;
            }
            return left;
        }

        Rule and(int within) throws Fault {
            Rule left = not(within, 0);
            while (token().equals("and")) {
                at++;
                Rule a = left;
                Rule b = not(within, 0);
                left = (d, n, s) -> a.give(d, n, s) != 0 & b.give(d, n, s) != 0 ? 1 : 0;
            }
            return left;
        }

        Rule not(int within, int nots) throws Fault {
            if (token().equals("not")) {
                if (nots == 6) {
                    throw fail(2);
                }
                at++;
                Rule a = not(within, nots + 1);
                return (d, n, s) -> a.give(d, n, s) == 0 ? 1 : 0;
            }
            Rule a = sum(within);
            if (token().equals("<")) {
                at++;
                Rule b = sum(within);
                return (d, n, s) -> a.give(d, n, s) < b.give(d, n, s) ? 1 : 0;
            }
            if (token().equals("=")) {
                at++;
                Rule b = sum(within);
                return (d, n, s) -> a.give(d, n, s) == b.give(d, n, s) ? 1 : 0;
            }
            return a;
        }

        Rule sum(int within) throws Fault {
            Rule left = product(within);
            while (token().equals("+") || token().equals("-")) {
                int sign = tokens.get(at++).equals("+") ? 1 : -1;
                Rule a = left;
                Rule b = product(within);
                left = (d, n, s) -> a.give(d, n, s) + sign * b.give(d, n, s);
            }
            return left;
        }

        Rule product(int within) throws Fault {
            Rule left = part(within);
            while (token().equals("*") || token().equals("/")) {
                boolean times = tokens.get(at++).equals("*");
                Rule a = left;
                Rule b = part(within);
                left = (d, n, s) -> times ? a.give(d, n, s) * b.give(d, n, s)
                    : b.give(d, n, s) == 0 ? 0 : a.give(d, n, s) / b.give(d, n, s);
            }
            return left;
        }

        Rule part(int within) throws Fault {
            if (isNumber()) {
                if (token().length() > 4) {
                    throw fail(2);
                }
                int number = Integer.parseInt(tokens.get(at++));
                return (d, n, s) -> number;
            }
            if (isWord()) {
                Rule value = value();
                at++;
                return value;
            }
            must("(");
            Rule inner = expr(within + 1);
            must(")");
            return inner;
        }

        // Cards, heaps and wish may be told behind the rule, so they are looked at when it is worked out.
        Rule value() throws Fault {
            return switch (token()) {
                case "deal" -> (d, n, s) -> d;
                case "wish" -> (d, n, s) -> wish;
                case "heaps" -> (d, n, s) -> heaps;
                case "cards" -> (d, n, s) -> cards;
                case "named" -> (d, n, s) -> n;
                case "size" -> (d, n, s) -> s;
                default -> throw fail(3);
            };
        }
    }

    // ---- dealing

    private List<List<Integer>> dealt(List<Integer> from, int kind, int side) {
        List<List<Integer>> all = new ArrayList<>();
        for (int h = 0; h < heaps; h++) {
            all.add(new ArrayList<>());
        }
        int card = 0;
        if (kind == 2) {
            for (int h = 0; h < heaps; h++) {
                int size = cards / heaps + (h < cards % heaps ? 1 : 0);
                for (int i = 0; i < size; i++) {
                    all.get(h).add(from.get(card++));
                }
            }
        } else {
            for (int p = 0; p < cards; p++) {
                int q = p % (2 * heaps);
                int h = kind == 0 ? p % heaps : q < heaps ? q : 2 * heaps - 1 - q;
                all.get(h).add(from.get(p));
            }
        }
        if (side == 1) {
            all.forEach(Collections::reverse);
        }
        return all;
    }

    private List<Integer> laid(List<Integer> from, int kind, int side, int laying, int named) {
        List<List<Integer>> all = dealt(from, kind, side);
        List<Integer> mine = all.remove(named);
        all.add(laying, mine);
        List<Integer> pack = new ArrayList<>();
        all.forEach(pack::addAll);
        return pack;
    }

    private Deal deal(int i) {
        return deals.isEmpty() ? new Deal(0, 1, (d, n, s) -> heaps / 2) : deals.get(number(i));
    }

    private int number(int i) {
        return deals.isEmpty() ? 0 : i % deals.size();
    }

    private int heapWith(List<List<Integer>> all, int card) {
        for (int h = 0; h < heaps; h++) {
            if (all.get(h).contains(card)) {
                return h;
            }
        }
        throw new IllegalStateException();
    }

    private int layingOf(int i, int named) {
        Deal deal = deal(i);
        int size = dealt(ordered(cards), deal.kind, 0).get(named).size();
        return Math.floorMod(deal.rule.give(number(i), named, size), heaps);
    }

    private void place(int place) {
        if (place < 0 || place >= cards) {
            throw new NoSuchElementException();
        }
    }

    private void heap(int heap) {
        if (heap < 0 || heap >= heaps) {
            throw new NoSuchElementException();
        }
    }

    private static void range(int n, int least, int most) {
        if (n < least || n > most) {
            throw new IllegalArgumentException();
        }
    }

    private boolean asTold(int kind, int side, int laying, int named) {
        return kind >= 0 && kind < 3 && side >= 0 && side < 2 && laying >= 0 && laying < heaps
            && named >= 0 && named < heaps;
    }

    // ---- calls

    int count(int what) {
        return switch (what) {
            case 0 -> cards;
            case 1 -> heaps;
            case 2 -> deals.size();
            case 3 -> lies;
            case 4 -> wish;
            case 5 -> answers.size();
            case 6 -> Long.bitCount(fits());
            case 7 -> tape.length;
            case 8 -> faulty;
            case 9 -> refused;
            default -> throw new NoSuchElementException();
        };
    }

    int told(int deal, int named, int what) {
        if (deal < 0 || deal >= deals.size() || what < 0 || what > 2) {
            throw new NoSuchElementException();
        }
        heap(named);
        return what == 0 ? deal(deal).kind : what == 1 ? deal(deal).side : layingOf(deal, named);
    }

    int goes(int place, int i, int named) {
        place(place);
        heap(named);
        if (i < 0) {
            throw new NoSuchElementException();
        }
        return laid(ordered(cards), deal(i).kind, deal(i).side, layingOf(i, named), named).indexOf(place);
    }

    private int follow(int place, int kind, int side, int[] layings) {
        int h = heapWith(dealt(ordered(cards), kind, side), place);
        return laid(ordered(cards), kind, side, layings[h], h).indexOf(place);
    }

    private int[] layingsOf(int i) {
        int[] row = new int[heaps];
        for (int h = 0; h < heaps; h++) {
            row[h] = layingOf(i, h);
        }
        return row;
    }

    int end(int place, int n) {
        place(place);
        range(n, 0, 60);
        int there = place;
        for (int i = 0; i < n; i++) {
            there = follow(there, deal(i).kind, deal(i).side, layingsOf(i));
        }
        return there;
    }

    int sure(int n) {
        range(n, 0, 60);
        int[] there = new int[cards];
        Arrays.setAll(there, p -> p);
        for (int i = 0; i < n; i++) {
            step(there, i);
        }
        return Arrays.stream(there).distinct().count() == 1 ? there[0] : -1;
    }

    int soonest() {
        int[] there = new int[cards];
        Arrays.setAll(there, p -> p);
        for (int n = 0; n <= 60; n++) {
            if (Arrays.stream(there).distinct().count() == 1) {
                return n;
            }
            step(there, n);
        }
        return -1;
    }

    private void step(int[] there, int i) {
        int[] to = new int[cards];
        Arrays.setAll(to, p -> follow(p, deal(i).kind, deal(i).side, layingsOf(i)));
        for (int p = 0; p < cards; p++) {
            there[p] = to[there[p]];
        }
    }

    private int[][] rows(int place, int n) {
        int[][][] to = new int[n][heaps][cards];
        for (int i = 0; i < n; i++) {
            for (int l = 0; l < heaps; l++) {
                int[] same = new int[heaps];
                Arrays.fill(same, l);
                for (int p = 0; p < cards; p++) {
                    to[i][l][p] = follow(p, deal(i).kind, deal(i).side, same);
                }
            }
        }
        List<int[]> good = new ArrayList<>();
        int all = (int) Math.pow(heaps, n);
        for (int number = 0; number < all; number++) {
            int[] row = new int[n];
            int left = number;
            for (int i = n - 1; i >= 0; i--) {
                row[i] = left % heaps;
                left /= heaps;
            }
            boolean fits = true;
            for (int p = 0; p < cards && fits; p++) {
                int there = p;
                for (int i = 0; i < n; i++) {
                    there = to[i][row[i]][there];
                }
                fits = there == place;
            }
            if (fits) {
                good.add(row);
            }
        }
        return good.toArray(new int[0][]);
    }

    int wished(int place, int n) {
        place(place);
        range(n, 1, 5);
        int[][] rows = rows(place, n);
        if (rows.length > 0) {
            found = rows[0];
        }
        return rows.length;
    }

    int laying(int i) {
        if (found == null || i < 0 || i >= found.length) {
            throw new NoSuchElementException();
        }
        return found[i];
    }

    int fewest(int place) {
        place(place);
        for (int n = 1; n <= 5; n++) {
            if (rows(place, n).length > 0) {
                return n;
            }
        }
        return -1;
    }

    long always(int kind, int side, int laying, int named) {
        if (!asTold(kind, side, laying, named)) {
            throw new IllegalArgumentException();
        }
        List<Integer> now = ordered(cards);
        long n = 0;
        do {
            now = laid(now, kind, side, laying, named);
            n++;
        } while (!now.equals(ordered(cards)));
        return n;
    }

    int two(int first, int second, int n) {
        place(first);
        place(second);
        range(n, 0, 60);
        if (first == second) {
            throw new IllegalArgumentException();
        }
        List<Integer> now = ordered(cards);
        for (int i = 0; i < n; i++) {
            List<List<Integer>> all = dealt(now, deal(i).kind, deal(i).side);
            int a = heapWith(all, first);
            int b = heapWith(all, second);
            List<List<Integer>> others = new ArrayList<>(all);
            others.remove(Math.max(a, b));
            if (a != b) {
                others.remove(Math.min(a, b));
            }
            int ahead = Math.min(layingOf(i, a), others.size());
            List<Integer> next = new ArrayList<>();
            others.subList(0, ahead).forEach(next::addAll);
            next.addAll(all.get(a));
            if (a != b) {
                next.addAll(all.get(b));
            }
            others.subList(ahead, others.size()).forEach(next::addAll);
            now = next;
        }
        return 60 * now.indexOf(first) + now.indexOf(second);
    }

    int worst(int n) {
        range(n, 0, 6);
        if (Math.pow(heaps, n) > 5000) {
            return -2;
        }
        return worst(ordered(cards), new int[cards], 0, n);
    }

    private int worst(List<Integer> now, int[] falses, int i, int n) {
        if (i == n) {
            return (int) Arrays.stream(falses).filter(f -> f <= lies).count();
        }
        int most = 0;
        List<List<Integer>> all = dealt(now, deal(i).kind, deal(i).side);
        for (int named = 0; named < heaps; named++) {
            int[] next = new int[cards];
            for (int c = 0; c < cards; c++) {
                next[c] = falses[c] + (all.get(named).contains(c) ? 0 : 1);
            }
            List<Integer> then = laid(now, deal(i).kind, deal(i).side, layingOf(i, named), named);
            most = Math.max(most, worst(then, next, i + 1, n));
        }
        return most;
    }

    int card(int place) {
        place(place);
        return pack.get(place);
    }

    int answer(int kind, int side, int laying, int named) {
        if (answers.size() == 20 || !asTold(kind, side, laying, named)) {
            refused++;
            return -1;
        }
        answers.add(new Answer(pack, dealt(pack, kind, side).get(named)));
        pack = laid(pack, kind, side, laying, named);
        return Long.bitCount(fits());
    }

    int undo() {
        if (answers.isEmpty()) {
            return -1;
        }
        pack = answers.remove(answers.size() - 1).before;
        return answers.size();
    }

    int lies(int card) {
        place(card);
        return (int) answers.stream().filter(a -> !a.named.contains(card)).count();
    }

    long fits() {
        long bits = 0;
        for (int c = 0; c < cards; c++) {
            if (lies(c) <= lies) {
                bits |= 1L << c;
            }
        }
        return bits;
    }

    void see() {
        seen = pack;
    }

    int between(int what) {
        if (what < 0 || what > 1) {
            throw new NoSuchElementException();
        }
        int many = 0;
        int first = -1;
        for (int kind = 0; kind < 3; kind++) {
            for (int side = 0; side < 2; side++) {
                for (int laying = 0; laying < heaps; laying++) {
                    for (int named = 0; named < heaps; named++) {
                        if (laid(seen, kind, side, laying, named).equals(pack)) {
                            many++;
                            first = first < 0 ? 216 * kind + 36 * side + 6 * laying + named : first;
                        }
                    }
                }
            }
        }
        return what == 0 ? many : first;
    }

    int evenings(int seed, int evenings, int n) {
        range(evenings, 0, 60);
        range(n, 0, 60);
        int[] there = new int[cards];
        Arrays.setAll(there, p -> p);
        for (int i = 0; i < n; i++) {
            step(there, i);
        }
        int hits = 0;
        int s = seed;
        for (int i = 0; i < evenings; i++) {
            s = s * 1103515245 + 12345;
            int drawn = ((s >> 16) & 32767) % cards;
            hits += there[drawn] == wish ? 1 : 0;
        }
        return hits;
    }

    int weighings(int cards, boolean known) {
        range(cards, 1, 1000);
        if (!known && cards <= 2) {
            return -1;
        }
        int n = 0;
        while (known ? Math.pow(3, n) < cards : (Math.pow(3, n) - 3) / 2 < cards) {
            n++;
        }
        return n;
    }

    void image() {
        image = new Image(pack, new ArrayList<>(answers), seen);
    }

    boolean restore() {
        if (image == null) {
            return false;
        }
        pack = image.pack;
        answers = new ArrayList<>(image.answers);
        seen = image.seen;
        return true;
    }
}
