import java.nio.charset.StandardCharsets;
import java.util.function.Supplier;

/** What the tests share: counting wrong answers, feeding texts, catching what a call throws. */
final class Check {
    interface Call {
        long answer();
    }

    private static final int MOST_PRINTED = 40;

    private int checks = 0;
    private int wrong = 0;

    void due(String what, long want, Call call) {
        dueText(what, Long.toString(want), call);
    }

    void dueThrow(String what, Class<? extends RuntimeException> want, Call call) {
        dueText(what, "throws." + want.getSimpleName(), call);
    }

    void dueTrue(String what, boolean holds) {
        due(what, 1, () -> holds ? 1 : 0);
    }

    void dueText(String what, String want, Call call) {
        compare(what, want, outcome(call));
    }

    void dueRow(String what, String want, Supplier<String> row) {
        compare(what, want, row.get());
    }

    private void compare(String what, String want, String got) {
        checks++;
        if (!got.equals(want)) {
            wrong++;
            if (wrong <= MOST_PRINTED) {
                System.out.println(what + " answered " + got + ", due is " + want);
            }
        }
    }

    void close(String name) {
        System.out.println(name + ": " + checks + " checks, " + wrong + " wrong");
        if (wrong != 0) {
            System.exit(1);
        }
    }

    static String outcome(Call call) {
        try {
            return Long.toString(call.answer());
        } catch (RuntimeException e) {
            return "throws." + e.getClass().getSimpleName();
        }
    }

    /** Feeds a text, twenty bytes at a time, blanks behind it, and has it read. */
    static int trick(PileTricks x, String text) {
        byte[] bytes = text.getBytes(StandardCharsets.ISO_8859_1);
        for (int from = 0; from < bytes.length; from += 20) {
            x.feed(four(bytes, from), four(bytes, from + 4), four(bytes, from + 8),
                four(bytes, from + 12), four(bytes, from + 16));
        }
        return x.trick(bytes.length);
    }

    static PileTricks told(String text) {
        PileTricks x = new PileTricks();
        if (trick(x, text) != 0) {
            throw new IllegalStateException("a text with a fault: " + text);
        }
        return x;
    }

    static int four(byte[] bytes, int from) {
        int word = 0;
        for (int i = from; i < from + 4; i++) {
            word = word << 8 | (i < bytes.length ? bytes[i] & 255 : 32);
        }
        return word;
    }
}
