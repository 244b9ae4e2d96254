/** What the tests share: comparing, telling what is wrong, and feeding texts. */
final class Check {
    private static int wrong = 0;

    private Check() {
    }

    static void equal(String what, long got, long due) {
        if (got != due) {
            wrong++;
            System.out.println(what + " answered " + got + ", due is " + due);
        }
    }

    static void fails(String what, Class<? extends RuntimeException> due, Runnable call) {
        String got = "nothing";
        try {
            call.run();
        } catch (RuntimeException e) {
            got = e.getClass().getName();
        }
        if (!got.equals(due.getName())) {
            wrong++;
            System.out.println(what + " threw " + got + ", due is " + due.getName());
        }
    }

    static void feed(TokenFrames x, String text) {
        for (int at = 0; at < text.length(); at += 16) {
            int n = Math.min(16, text.length() - at);
            int[] words = new int[4];
            for (int i = 0; i < n; i++) {
                words[i / 4] |= (text.charAt(at + i) & 255) << (24 - 8 * (i % 4));
            }
            x.feed(words[0], words[1], words[2], words[3], n);
        }
    }

    static int read(TokenFrames x, String text) {
        feed(x, text);
        return x.read();
    }

    static TokenFrames of(String text) {
        TokenFrames x = new TokenFrames();
        int answer = read(x, text);
        if (answer < 0) {
            wrong++;
            System.out.println("a text that is right was refused with " + answer + ": " + text);
        }
        return x;
    }

    /** A new object reads the text and answers that. */
    static void reads(String text, int due) {
        equal("read of " + text, read(new TokenFrames(), text), due);
    }

    /** The text has its fault at a place. */
    static void faultAt(int place, String text) {
        reads(text, -1 - place);
    }

    /** Outcome 0 with this value, whatever token goes first. */
    static void works(String text, int a, int b, int due) {
        TokenFrames x = of(text);
        for (int order : new int[] {0, 1, 2, -7, 12345}) {
            String call = "run(" + a + ", " + b + ", 300, " + order + ") of " + text;
            equal(call, x.run(a, b, 300, order), 0);
            equal("value behind " + call, x.value(), due);
        }
    }

    static void counts(TokenFrames x, String when, int calls, int parts, int knownCells, int cells) {
        equal("count(0) " + when, x.count(0), calls);
        equal("count(1) " + when, x.count(1), parts);
        equal("count(2) " + when, x.count(2), knownCells);
        equal("count(3) " + when, x.count(3), cells);
    }

    static String many(int n, String text) {
        return text.repeat(n);
    }

    static void end() {
        if (wrong != 0) {
            System.out.println(wrong + " wrong");
            System.exit(1);
        }
    }
}
