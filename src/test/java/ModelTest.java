import java.nio.charset.StandardCharsets;
import java.util.Random;

/** Random runs of calls, each answered by the class and by the model; seeds are fixed. */
public final class ModelTest {
    private static final int TEXT_RUNS = 6000;
    private static final int RUNS = 350;
    private static final int CALLS = 110;
    private static final int DEAR_RUNS = 60;
    // Behind 512 calls an object's answers are free; see() and image() are not counted here.
    private static final int MOST_CALLS = 450;

    private final Check check = new Check();
    private final Random random;
    private final Texts texts;
    private PileTricks x = new PileTricks();
    private Model m = new Model();
    private String text = "";
    private int calls = 0;

    private ModelTest(long seed) {
        random = new Random(seed);
        texts = new Texts(random);
    }

    public static void main(String[] args) {
        ModelTest test = new ModelTest(args.length > 0 ? Long.parseLong(args[0]) : 1);
        test.texts();
        for (int run = 0; run < RUNS; run++) {
            test.run(run);
        }
        for (int run = 0; run < DEAR_RUNS; run++) {
            test.dear();
        }
        test.check.close("ModelTest");
    }

    private void start() {
        x = new PileTricks();
        m = new Model();
        text = "";
        calls = 0;
    }

    private void both(String what, Check.Call ours, Check.Call theirs) {
        calls++;
        if (calls > MOST_CALLS) {
            return;
        }
        check.dueText("text '" + text + "' " + what, Check.outcome(theirs), ours);
    }

    private void texts() {
        for (int i = 0; i < TEXT_RUNS; i++) {
            start();
            read(texts.any());
            look();
        }
    }

    private void read(String next) {
        text = next;
        byte[] bytes = next.getBytes(StandardCharsets.ISO_8859_1);
        for (int from = 0; from < bytes.length; from += 20) {
            int[] w = new int[5];
            for (int i = 0; i < 5; i++) {
                w[i] = Check.four(bytes, from + 4 * i);
            }
            both("feed", () -> x.feed(w[0], w[1], w[2], w[3], w[4]), () -> m.feed(w));
        }
        both("trick", () -> x.trick(bytes.length), () -> m.trick(bytes.length));
        both("fault", () -> x.fault(), () -> m.fault());
    }

    private void look() {
        for (int what = -1; what <= 10; what++) {
            int w = what;
            both("count " + w, () -> x.count(w), () -> m.count(w));
        }
        for (int deal = 0; deal < m.count(2); deal++) {
            for (int i = 0; i < 3 * 7; i++) {
                int d = deal;
                int named = i / 3;
                int what = i % 3;
                both("told " + d + " " + named + " " + what, () -> x.told(d, named, what), () -> m.told(d, named, what));
            }
        }
    }

    private void run(int run) {
        start();
        if (run % 5 != 0) {
            read(texts.good());
        }
        for (int i = 0; i < CALLS; i++) {
            call();
        }
        look();
    }

    /** The calls that the model answers too slowly to be drawn often. */
    private void dear() {
        start();
        read(texts.good());
        int p = random.nextInt(m.count(0));
        for (int i = 0; i <= 6; i++) {
            int n = i;
            both("worst " + n, () -> x.worst(n), () -> m.worst(n));
            both("wished " + p + " " + n, () -> x.wished(p, n), () -> m.wished(p, n));
            both("laying " + n, () -> x.laying(n), () -> m.laying(n));
        }
        both("fewest", () -> x.fewest(p), () -> m.fewest(p));
        both("soonest", () -> x.soonest(), () -> m.soonest());
    }

    /** Mostly 0 to most, at times a little beside it, at times anything. */
    private int any(int most) {
        int how = random.nextInt(40);
        return how == 0 ? random.nextInt() : how == 1 ? -1 : how == 2 ? most + 1 : random.nextInt(most + 1);
    }

    private void call() {
        int cards = m.count(0);
        int heaps = m.count(1);
        int p = any(cards - 1);
        int q = any(cards - 1);
        int h = any(heaps - 1);
        int l = any(heaps - 1);
        int kind = any(2);
        int side = any(1);
        int n = any(60);
        switch (random.nextInt(40)) {
            case 0 -> both("goes", () -> x.goes(p, n, h), () -> m.goes(p, n, h));
            case 1 -> both("end", () -> x.end(p, n), () -> m.end(p, n));
            case 2 -> both("sure", () -> x.sure(n), () -> m.sure(n));
            case 3 -> {
                if (random.nextInt(4) == 0) {
                    both("soonest", () -> x.soonest(), () -> m.soonest());
                }
            }
            case 4, 5, 6 -> wish(p);
            case 7, 8 -> both("always", () -> x.always(kind, side, l, h), () -> m.always(kind, side, l, h));
            case 9, 10 -> both("two " + p + " " + q + " " + n, () -> x.two(p, q, n), () -> m.two(p, q, n));
            case 11 -> {
                int deals = random.nextInt(30) == 0 ? any(6) : any(3);
                both("worst " + deals, () -> x.worst(deals), () -> m.worst(deals));
            }
            case 12 -> both("card", () -> x.card(p), () -> m.card(p));
            case 13 -> both("lies", () -> x.lies(p), () -> m.lies(p));
            case 14 -> both("fits", () -> x.fits(), () -> m.fits());
            case 15, 16, 17, 18 -> both("undo", () -> x.undo(), () -> m.undo());
            case 19 -> {
                x.see();
                m.see();
            }
            case 20, 21 -> {
                int what = any(1);
                both("between " + what, () -> x.between(what), () -> m.between(what));
            }
            case 22 -> {
                int seed = random.nextInt();
                int evenings = any(60);
                both("evenings", () -> x.evenings(seed, evenings, n), () -> m.evenings(seed, evenings, n));
            }
            case 23 -> {
                x.image();
                m.image();
            }
            case 24 -> both("restore", () -> x.restore() ? 1 : 0, () -> m.restore() ? 1 : 0);
            case 25 -> {
                int weighed = any(random.nextBoolean() ? 1000 : 20);
                boolean known = random.nextBoolean();
                both("weighings", () -> x.weighings(weighed, known), () -> m.weighings(weighed, known));
            }
            case 26 -> {
                if (random.nextInt(6) == 0) {
                    read(random.nextBoolean() ? texts.good() : texts.any());
                    look();
                }
            }
            case 27 -> both("trick past", () -> x.trick(1 + m.count(7)), () -> m.trick(1 + m.count(7)));
            default -> both("answer", () -> x.answer(kind, side, l, h), () -> m.answer(kind, side, l, h));
        }
    }

    private void wish(int p) {
        int n = random.nextInt(40) == 0 ? any(5) : 1 + random.nextInt(3);
        if (random.nextInt(60) == 0) {
            both("fewest", () -> x.fewest(p), () -> m.fewest(p));
        }
        both("wished " + p + " " + n, () -> x.wished(p, n), () -> m.wished(p, n));
        int i = any(4);
        both("laying " + i, () -> x.laying(i), () -> m.laying(i));
    }
}
