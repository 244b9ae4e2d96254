import java.util.Random;

/** Runs of calls by chance, wrong ones among them, against the model: every answer and every exception. */
public final class CallRunsTest {
    private static final int[] EDGES = {Integer.MIN_VALUE, -1, 0, 1, 2, 15, 16, 17, 299, 300, 301, Integer.MAX_VALUE};

    // Nothing is promised about an object behind so many.
    private static final int MOST_CALLS = 512;

    private final TokenFrames x = new TokenFrames();
    private final Model model = new Model();
    private final StringBuilder tape = new StringBuilder();
    private final Random random;
    private final long seed;
    private int made;
    private String pending = "";
    private int value;
    private int[] counts = new int[4];

    private CallRunsTest(long seed) {
        this.seed = seed;
        random = new Random(seed);
    }

    public static void main(String[] args) {
        int runs = args.length > 0 ? Integer.parseInt(args[0]) : 800;
        long start = args.length > 1 ? Long.parseLong(args[1]) : 1;
        for (long seed = start; seed < start + runs; seed++) {
            CallRunsTest run = new CallRunsTest(seed);
            while (run.made < MOST_CALLS) {
                run.call();
            }
        }
        Check.end();
    }

    private void compare(String call, String got, String due) {
        Check.same(call + " in the run of seed " + seed, got, due);
    }

    private interface Call {
        int answer();
    }

    private String told(Call call) {
        made++;
        try {
            return "" + call.answer();
        } catch (RuntimeException e) {
            return e.getClass().getSimpleName();
        }
    }

    private int edgeOr(int of) {
        return random.nextInt(6) == 0 ? EDGES[random.nextInt(EDGES.length)] : random.nextInt(of);
    }

    private void call() {
        int kind = random.nextInt(100);
        if (kind < 35) {
            feed();
        } else if (kind < 45) {
            read();
        } else if (kind < 60) {
            run();
        } else if (kind < 68) {
            compare("value", told(x::value), "" + value);
        } else if (kind < 85) {
            count(random.nextInt(8) - 1);
        } else if (kind < 99) {
            definition(edgeOr(13), random.nextInt(4) - 1);
        } else if (random.nextInt(3) == 0) {
            clear();
        }
    }

    private void feed() {
        if (pending.isEmpty()) {
            TextMaker maker = new TextMaker(random.nextLong());
            pending = maker.make();
            if (random.nextInt(4) == 0) {
                pending = maker.spoil(pending);
            }
            if (random.nextInt(20) == 0) {
                pending = Check.many(1500 - random.nextInt(60), " ") + pending;
            }
        }
        // Mostly what is left of a text in one go, so that texts become whole.
        do {
            int n = random.nextInt(12) == 0 ? edgeOr(20) : Math.min(16, pending.length());
            int[] words = new int[4];
            for (int i = 0; i < 16; i++) {
                int code = i < pending.length() ? pending.charAt(i) & 255 : random.nextInt(256);
                words[i / 4] |= code << (24 - 8 * (i % 4));
            }
            String due = n < 1 || n > 16 ? "IllegalArgumentException"
                    : tape.length() + n > 1500 ? "UnsupportedOperationException" : "" + (tape.length() + n);
            compare("feed of " + n, told(() -> x.feed(words[0], words[1], words[2], words[3], n)), due);
            if (due.startsWith("U")) {
                pending = "";
            } else if (!due.startsWith("I")) {
                for (int i = 0; i < n; i++) {
                    tape.append((char) (words[i / 4] >>> (24 - 8 * (i % 4)) & 255));
                }
                pending = pending.substring(Math.min(n, pending.length()));
            }
        } while (!pending.isEmpty() && made < MOST_CALLS && random.nextInt(40) != 0);
    }

    private void read() {
        int due = model.read(tape.toString());
        compare("read of " + tape, told(x::read), "" + due);
        tape.setLength(0);
    }

    private void run() {
        int a = edgeOr(12);
        int b = edgeOr(12);
        int calls = random.nextInt(3) == 0 ? edgeOr(302) : 300;
        int order = edgeOr(4);
        String due;
        if (model.definitions.isEmpty()) {
            due = "IllegalStateException";
        } else if (calls < 1 || calls > 300) {
            due = "IllegalArgumentException";
        } else {
            due = "" + model.run(a, b, calls);
            value = model.value;
            counts = model.counts;
        }
        compare("run(" + a + ", " + b + ", " + calls + ", " + order + ")", told(() -> x.run(a, b, calls, order)), due);
    }

    private void count(int what) {
        String due = what < 0 || what > 5 ? "IndexOutOfBoundsException"
                : "" + (what == 5 ? tape.length() : what == 4 ? model.definitions.size() : counts[what]);
        compare("count(" + what + ")", told(() -> x.count(what)), due);
    }

    private void definition(int k, int what) {
        boolean isThere = k >= 0 && k < model.definitions.size() && (what == 0 || what == 1);
        String due = "IndexOutOfBoundsException";
        if (isThere) {
            Model.Definition definition = model.definitions.get(k);
            due = "" + (what == 0 ? definition.arguments.size() : definition.parts);
        }
        compare("definition(" + k + ", " + what + ")", told(() -> x.definition(k, what)), due);
    }

    private void clear() {
        made++;
        x.clear();
        tape.setLength(0);
        model.definitions.clear();
        value = 0;
        counts = new int[4];
    }
}
