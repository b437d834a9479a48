import java.util.ArrayList;
import java.util.List;
import java.util.Random;

/** Random texts: good ones, and good ones that were spoilt a little. */
final class Texts {
    private static final String[] TOKENS = {"cards", "heaps", "lies", "wish", "deal", "turn", "fro", "run", "under",
        "over", "at", "or", "and", "not", "named", "size", "pile", "a", "card", "dealt", ";", "(", ")", "+", "-", "*",
        "/", "<", "=", "0", "1", "2", "3", "6", "7", "59", "60", "61", "0003", "00003", "9999", "12345", "123456789012",
        "A", ">", "\t", "\u00e9", "\u0000", "not not not", "not not not not not not not", "(((", ")))"};
    private static final String[] VALUES = {"deal", "wish", "heaps", "cards", "named", "size"};

    private final Random random;

    Texts(Random random) {
        this.random = random;
    }

    String good() {
        String text;
        do {
            text = joined(tokens());
        } while (text.length() > 500);
        return text;
    }

    String any() {
        String text;
        do {
            List<String> tokens = tokens();
            for (int i = random.nextInt(4); i > 0; i--) {
                spoil(tokens);
            }
            text = joined(tokens);
        } while (text.length() > 500);
        return random.nextInt(20) == 0 ? text.substring(0, random.nextInt(text.length() + 1)) : text;
    }

    private void spoil(List<String> tokens) {
        int at = random.nextInt(tokens.size() + 1);
        String other = TOKENS[random.nextInt(TOKENS.length)];
        int how = random.nextInt(3);
        if (how == 0 || at == tokens.size()) {
            tokens.add(at, other);
        } else if (how == 1) {
            tokens.set(at, other);
        } else {
            tokens.remove(at);
        }
    }

    private String joined(List<String> tokens) {
        StringBuilder text = new StringBuilder();
        boolean tight = random.nextBoolean();
        for (String token : tokens) {
            boolean glued = text.length() > 0 && isPlain(text.charAt(text.length() - 1)) && isPlain(token.charAt(0));
            if (glued || !tight && random.nextInt(4) == 0) {
                text.append(random.nextInt(5) == 0 ? "\n" : " ");
            }
            text.append(token);
        }
        return text.toString();
    }

    private static boolean isPlain(char c) {
        return c >= 'a' && c <= 'z' || c >= '0' && c <= '9';
    }

    private List<String> tokens() {
        int heaps = 2 + random.nextInt(5);
        int cards = random.nextInt(3) == 0 ? heaps + random.nextInt(4) : heaps + random.nextInt(61 - heaps);
        List<List<String>> lines = new ArrayList<>();
        if (random.nextInt(20) > 0) {
            lines.add(List.of("heaps", Integer.toString(heaps)));
            lines.add(List.of("cards", Integer.toString(cards)));
        }
        if (random.nextBoolean()) {
            lines.add(List.of("lies", Integer.toString(random.nextInt(3))));
        }
        if (random.nextBoolean()) {
            lines.add(List.of("wish", Integer.toString(random.nextInt(random.nextInt(4) == 0 ? 60 : cards))));
        }
        for (int deals = random.nextInt(random.nextInt(5) == 0 ? 10 : 5); deals > 0; deals--) {
            List<String> deal = new ArrayList<>(List.of("deal", TOKENS[5 + random.nextInt(3)],
                TOKENS[8 + random.nextInt(2)], "at"));
            expr(deal, 0, random.nextInt(8) == 0);
            lines.add(deal);
        }
        List<String> all = new ArrayList<>();
        while (!lines.isEmpty()) {
            all.addAll(lines.remove(random.nextInt(lines.size())));
            all.add(";");
        }
        return all;
    }

    private void expr(List<String> to, int depth, boolean deep) {
        for (int more = random.nextInt(10) == 0 ? 2 : 0; more >= 0; more--) {
            for (int i = random.nextInt(40) == 0 ? random.nextInt(8) : random.nextInt(5) == 0 ? 1 : 0; i > 0; i--) {
                to.add("not");
            }
            sum(to, depth, deep);
            if (random.nextInt(4) == 0) {
                to.add(random.nextBoolean() ? "<" : "=");
                sum(to, depth, deep);
            }
            if (more > 0) {
                to.add(random.nextBoolean() ? "and" : "or");
            }
        }
    }

    private void sum(List<String> to, int depth, boolean deep) {
        part(to, depth, deep);
        for (int more = random.nextInt(3); more > 0; more--) {
            to.add(TOKENS[23 + random.nextInt(4)]);
            part(to, depth, deep);
        }
    }

    private void part(List<String> to, int depth, boolean deep) {
        if (depth < 7 && random.nextInt(deep ? 2 : 6) == 0) {
            to.add("(");
            expr(to, depth + 1, deep);
            to.add(")");
        } else if (random.nextBoolean()) {
            to.add(VALUES[random.nextInt(VALUES.length)]);
        } else {
            to.add(Integer.toString(random.nextInt(random.nextInt(4) == 0 ? 10000 : 8)));
        }
    }
}
