import java.util.Arrays;

/** What the tests share: comparing, telling what is wrong, and feeding texts. */
final class Check {
    /** Which token goes first: the oldest, the newest, and by chance of seeds, the edges of int among them. */
    static final int[] ORDERS = {0, 1, 2, -1, 77, Integer.MIN_VALUE, Integer.MAX_VALUE};

    private static int wrong = 0;
    private static String sentence = "";

    private Check() {
    }

    /** The words of the document that the checks behind this hold it to. */
    static void sentence(String words) {
        sentence = words;
    }

    private static void tell(String what) {
        wrong++;
        System.out.println((sentence.isEmpty() ? "" : "[" + sentence + "] ") + what);
    }

    static void equal(String what, long got, long due) {
        if (got != due) {
            tell(what + " answered " + got + ", due is " + due);
        }
    }

    static void same(String what, String got, String due) {
        if (!got.equals(due)) {
            tell(what + " is " + got + ", due is " + due);
        }
    }

    static void fails(String what, Class<? extends RuntimeException> due, Runnable call) {
        String got = "nothing";
        try {
            call.run();
        } catch (RuntimeException e) {
            got = e.getClass().getName();
        }
        if (!got.equals(due.getName())) {
            tell(what + " threw " + got + ", due is " + due.getName());
        }
    }

    /** As fails, and all that the object tells is the same before and behind. */
    static void failsInVain(TokenFrames x, String what, Class<? extends RuntimeException> due, Runnable call) {
        String before = stateOf(x);
        fails(what, due, call);
        same("what is told behind " + what, stateOf(x), before);
    }

    /** All that can be asked without changing anything. */
    static String stateOf(TokenFrames x) {
        StringBuilder state = new StringBuilder("value " + x.value() + ", counts");
        for (int what = 0; what <= 5; what++) {
            state.append(' ').append(x.count(what));
        }
        for (int k = 0; k < x.count(4); k++) {
            state.append(", definition ").append(x.definition(k, 0)).append(' ').append(x.definition(k, 1));
        }
        return state.toString();
    }

    static void feed(TokenFrames x, String text) {
        for (int at = 0; at < text.length(); at += 16) {
            int n = Math.min(16, text.length() - at);
            int[] words = new int[4];
            for (int i = 0; i < n; i++) {
                words[i / 4] |= (text.charAt(at + i) & 255) << (24 - 8 * (i % 4));
            }
            x.feed(words[0], words[1], words[2], words[3], n);
        }
    }

    static int read(TokenFrames x, String text) {
        feed(x, text);
        return x.read();
    }

    static TokenFrames of(String text) {
        TokenFrames x = new TokenFrames();
        int answer = read(x, text);
        if (answer < 0) {
            tell("a text that is right was refused with " + answer + ": " + text);
        }
        return x;
    }

    /** A new object reads the text and answers that. */
    static void reads(String text, int due) {
        equal("read of " + text, read(new TokenFrames(), text), due);
    }

    /** The text has its fault at a place. */
    static void faultAt(int place, String text) {
        reads(text, -1 - place);
    }

    /** The text has its fault where the mark ^ stands; the mark itself is not fed. */
    static void fault(String marked) {
        int place = marked.indexOf('^');
        faultAt(place, marked.substring(0, place) + marked.substring(place + 1));
    }

    /** The first definition of the text has so many arguments and parts. */
    static void defines(String text, int arguments, int parts) {
        TokenFrames x = of(text);
        if (x.count(4) > 0) {
            equal("arguments of " + text, x.definition(0, 0), arguments);
            equal("parts of " + text, x.definition(0, 1), parts);
        }
    }

    /** Outcome 0 with this value, whatever token goes first. */
    static void works(String text, int a, int b, int due) {
        TokenFrames x = of(text);
        for (int order : ORDERS) {
            String call = "run(" + a + ", " + b + ", 300, " + order + ") of " + text;
            equal(call, outcomeOf(x, a, b, 300, order), 0);
            equal("value behind " + call, x.value(), due);
        }
    }

    /** This outcome, whatever token goes first. */
    static void ends(String text, int a, int b, int calls, int due) {
        TokenFrames x = of(text);
        for (int order : ORDERS) {
            String call = "run(" + a + ", " + b + ", " + calls + ", " + order + ") of " + text;
            equal(call, outcomeOf(x, a, b, calls, order), due);
        }
    }

    /** The outcome and count(0) .. count(3), whatever token goes first. */
    static void tells(String text, int a, int b, int calls, int outcome, int... counts) {
        TokenFrames x = of(text);
        for (int order : ORDERS) {
            String call = "run(" + a + ", " + b + ", " + calls + ", " + order + ") of " + text;
            equal(call, outcomeOf(x, a, b, calls, order), outcome);
            int[] told = {x.count(0), x.count(1), x.count(2), x.count(3)};
            same("counts behind " + call, Arrays.toString(told), Arrays.toString(counts));
        }
    }

    /** So that a text that was refused wrongly does not end the whole test. */
    private static int outcomeOf(TokenFrames x, int a, int b, int calls, int order) {
        return x.count(4) > 0 ? x.run(a, b, calls, order) : -1;
    }

    static void counts(TokenFrames x, String when, int calls, int parts, int knownCells, int cells) {
        equal("count(0) " + when, x.count(0), calls);
        equal("count(1) " + when, x.count(1), parts);
        equal("count(2) " + when, x.count(2), knownCells);
        equal("count(3) " + when, x.count(3), cells);
    }

    static String many(int n, String text) {
        return text.repeat(n);
    }

    static void end() {
        if (wrong != 0) {
            System.out.println(wrong + " wrong");
            System.exit(1);
        }
    }
}
