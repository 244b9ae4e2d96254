/** The document's sentences on single calls: what they take, what they refuse, and that refusing changes nothing. */
public final class CallEdgesTest {
    private static final int LEAST = Integer.MIN_VALUE;
    private static final int MOST = Integer.MAX_VALUE;
    private static final int BLANKS = 0x20202020;

    public static void main(String[] args) {
        aNewObjectIsEmpty();
        feedTakesTheFirstBytes();
        feedTellsHowMany();
        feedRefusesWrongNumbers();
        feedRefusesTooManyBytes();
        feedNamesTheWrongNumberFirst();
        whatIsRefusedDoesNotComeOntoTheTape();
        readTellsThePlace();
        runRefusesWithoutDefinitions();
        runRefusesWrongCalls();
        runTakesEveryOrder();
        valueIsThatOfOutcomeNoughtAlone();
        countTellsOfTheRun();
        countRefusesOthers();
        definitionRefusesOthers();
        clearMakesEmpty();
        anObjectIsUsedForManyCalls();
        Check.end();
    }

    /** With three definitions, a run whose value is 5, and three bytes on the tape. */
    private static TokenFrames used() {
        TokenFrames x = Check.of("m(a)=make(a,c)+f(a);f(a)=if a>9 then f(a)else 0;c(i,s)=i;");
        x.run(5, 0, 300, 0);
        Check.feed(x, "m()");
        Check.same("what is told to begin with", Check.stateOf(x),
                "value 5, counts 7 15 5 5 3 3, definition 1 5, definition 1 7, definition 2 1");
        return x;
    }

    private static TokenFrames fed(int bytes) {
        TokenFrames x = new TokenFrames();
        Check.feed(x, Check.many(bytes, " "));
        return x;
    }

    private static void aNewObjectIsEmpty() {
        Check.sentence("An empty tape, no definitions.");
        TokenFrames x = new TokenFrames();
        Check.same("what a new object tells", Check.stateOf(x), "value 0, counts 0 0 0 0 0 0");
        Check.failsInVain(x, "run", IllegalStateException.class, () -> x.run(0, 0, 300, 0));
        Check.failsInVain(x, "definition", IndexOutOfBoundsException.class, () -> x.definition(0, 0));
        Check.equal("read", x.read(), -1);
        Check.equal("feed", new TokenFrames().feed(0, 0, 0, 0, 1), 1);
        // One object knows nothing of another.
        TokenFrames other = used();
        Check.same("what a new object tells", Check.stateOf(new TokenFrames()), "value 0, counts 0 0 0 0 0 0");
        Check.equal("what the other one still has", other.count(4), 3);
    }

    private static void feedTakesTheFirstBytes() {
        Check.sentence("The first n of 16 bytes come onto the tape, the highest of each number first");
        String text = "m(a,b)=a/b+1234;";
        int[] numbers = {0x6d28612c, 0x62293d61, 0x2f622b31, 0x3233343b};
        for (int n = 1; n <= 16; n++) {
            // The first n, and then the others by Check.feed, must be the text.
            TokenFrames x = new TokenFrames();
            x.feed(numbers[0], numbers[1], numbers[2], numbers[3], n);
            Check.feed(x, text.substring(n));
            Check.equal("read of a text fed in two, the first " + n, x.read(), 1);
            x.run(100, 7, 1, 0);
            Check.equal("value", x.value(), 1248);
        }
        for (int n = 6; n <= 16; n++) {
            // Behind the first n stands what would be a fault.
            int[] words = {0, 0, 0, 0};
            String padded = "m()=1;" + Check.many(n - 6, " ") + Check.many(16 - n, "!");
            for (int i = 0; i < 16; i++) {
                words[i / 4] = words[i / 4] << 8 | padded.charAt(i);
            }
            TokenFrames x = new TokenFrames();
            x.feed(words[0], words[1], words[2], words[3], n);
            Check.equal("read of the first " + n + " of " + padded, x.read(), 1);
        }
        // A byte above 127 is none of those before or behind it.
        TokenFrames x = new TokenFrames();
        x.feed(0x20ff2020, 0, 0, 0, 4);
        Check.equal("read with the byte 255", x.read(), -2);
        x.feed(0xe1e1e1e1, 0, 0, 0, 4);
        Check.equal("read with the byte 225", x.read(), -1);
        x.feed(0x808080ad, 0, 0, 0, 4);
        Check.equal("read with the byte 128", x.read(), -1);
    }

    private static void feedTellsHowMany() {
        Check.sentence("how many it has");
        TokenFrames x = new TokenFrames();
        int sum = 0;
        for (int n = 1; n <= 16; n++) {
            sum += n;
            Check.equal("feed of " + n, x.feed(BLANKS, BLANKS, BLANKS, BLANKS, n), sum);
            Check.equal("count(5)", x.count(5), sum);
        }
    }

    private static void feedRefusesWrongNumbers() {
        Check.sentence("IllegalArgumentException: n is not 1 .. 16");
        for (int n : new int[] {LEAST, -16, -1, 0, 17, 18, 32, 257, 65537, MOST}) {
            TokenFrames fresh = new TokenFrames();
            Check.failsInVain(fresh, "feed of " + n, IllegalArgumentException.class, () -> fresh.feed(1, 2, 3, 4, n));
            TokenFrames x = used();
            Check.failsInVain(x, "feed of " + n, IllegalArgumentException.class, () -> x.feed(1, 2, 3, 4, n));
        }
        Check.equal("feed of 1", new TokenFrames().feed(1, 2, 3, 4, 1), 1);
        Check.equal("feed of 16", new TokenFrames().feed(1, 2, 3, 4, 16), 16);
    }

    private static void feedRefusesTooManyBytes() {
        Check.sentence("UnsupportedOperationException: there would be more than 1500");
        for (int n = 1; n <= 16; n++) {
            int bytes = n;
            Check.equal("feed of " + n + " to 1500", fed(1500 - n).feed(0, 0, 0, 0, n), 1500);
            TokenFrames lacksOne = fed(1501 - n);
            Check.failsInVain(lacksOne, "feed of " + n + " to 1501", UnsupportedOperationException.class,
                    () -> lacksOne.feed(0, 0, 0, 0, bytes));
            TokenFrames full = fed(1500);
            Check.failsInVain(full, "feed of " + n + " to a full tape", UnsupportedOperationException.class,
                    () -> full.feed(0, 0, 0, 0, bytes));
        }
        // Room comes back with read and clear.
        TokenFrames x = fed(1500);
        Check.equal("read", x.read(), -1501);
        Check.equal("feed behind read", x.feed(0, 0, 0, 0, 16), 16);
        TokenFrames y = fed(1500);
        y.clear();
        Check.equal("feed behind clear", y.feed(0, 0, 0, 0, 16), 16);
    }

    private static void feedNamesTheWrongNumberFirst() {
        Check.sentence("Methods throw what their comments name, the one named first when several would do.");
        TokenFrames x = fed(1500);
        for (int n : new int[] {LEAST, -1, 0, 17, MOST}) {
            Check.failsInVain(x, "feed of " + n + " to a full tape", IllegalArgumentException.class,
                    () -> x.feed(0, 0, 0, 0, n));
        }
    }

    private static void whatIsRefusedDoesNotComeOntoTheTape() {
        Check.sentence("A call that throws changes nothing.");
        TokenFrames x = fed(1490);
        Check.feed(x, "m()=");
        Check.fails("feed of 7", UnsupportedOperationException.class, () -> x.feed(0x21212121, 0x21212121, 0, 0, 7));
        Check.fails("feed of 17", IllegalArgumentException.class, () -> x.feed(0x21212121, 0, 0, 0, 17));
        Check.fails("feed of 0", IllegalArgumentException.class, () -> x.feed(0x21212121, 0, 0, 0, 0));
        Check.equal("feed of 6", x.feed(0x37373737, 0x373b0000, 0, 0, 6), 1500);
        Check.fails("feed of 1", UnsupportedOperationException.class, () -> x.feed(0x21212121, 0, 0, 0, 1));
        Check.equal("read", x.read(), 1);
        x.run(0, 0, 1, 0);
        Check.equal("value", x.value(), 77777);
    }

    private static void readTellsThePlace() {
        Check.sentence("-1 less the place of its fault");
        Check.equal("read of no bytes", new TokenFrames().read(), -1);
        Check.equal("read of one byte", Check.read(new TokenFrames(), "!"), -1);
        Check.equal("read of one name", Check.read(new TokenFrames(), "m"), -2);
        Check.equal("read of the last byte", Check.read(new TokenFrames(), Check.many(1499, " ") + "!"), -1500);
        Check.equal("read of blanks", fed(1500).read(), -1501);
        Check.sentence("The tape (which is empty then) is a text: how many definitions it has");
        Check.equal("read of one", Check.read(new TokenFrames(), "m()=1;"), 1);
        Check.equal("read of three", Check.read(new TokenFrames(), "m()=1;f()=1;g()=1;"), 3);
    }

    private static void runRefusesWithoutDefinitions() {
        Check.sentence("IllegalStateException: there are no definitions");
        TokenFrames x = new TokenFrames();
        Check.failsInVain(x, "run of a new object", IllegalStateException.class, () -> x.run(0, 0, 1, 0));
        Check.feed(x, "m()=1;");
        Check.failsInVain(x, "run before read", IllegalStateException.class, () -> x.run(0, 0, 1, 0));
        Check.feed(x, "!");
        x.read();
        Check.failsInVain(x, "run behind a fault", IllegalStateException.class, () -> x.run(0, 0, 1, 0));
        Check.read(x, "m()=f();");
        Check.failsInVain(x, "run behind a call of none", IllegalStateException.class, () -> x.run(0, 0, 1, 0));
        TokenFrames y = used();
        y.clear();
        Check.failsInVain(y, "run behind clear", IllegalStateException.class, () -> y.run(0, 0, 1, 0));
        Check.sentence("the one named first when several would do");
        for (int calls : new int[] {LEAST, -1, 0, 301, MOST}) {
            Check.failsInVain(x, "run with " + calls, IllegalStateException.class, () -> x.run(0, 0, calls, 0));
            Check.failsInVain(y, "run with " + calls, IllegalStateException.class, () -> y.run(0, 0, calls, 0));
        }
    }

    private static void runRefusesWrongCalls() {
        Check.sentence("IllegalArgumentException: calls are not 1 .. 300");
        for (int calls : new int[] {LEAST, -300, -1, 0, 301, 302, 556, 65537, MOST}) {
            TokenFrames x = used();
            Check.failsInVain(x, "run with " + calls, IllegalArgumentException.class, () -> x.run(1, 0, calls, 0));
            Check.failsInVain(x, "run with " + calls, IllegalArgumentException.class, () -> x.run(1, 0, calls, 1));
        }
        TokenFrames y = Check.of("m(a)=a;");
        for (int calls : new int[] {1, 2, 299, 300}) {
            Check.equal("run with " + calls, y.run(calls, 0, calls, 0), 0);
            Check.equal("value", y.value(), calls);
        }
    }

    private static void runTakesEveryOrder() {
        Check.sentence("nothing that is told hangs on it");
        String text = "m(a,b)=let t=make(a,c,b)in t[a-1]+f(t[b])+f(9);f(n)=if n<2 then n else f(n/2)+f(n/3);"
                + "c(i,s,b)=if i<b then if i=1 then s[1]else i*i else s[i-1]+s[i-b];";
        for (int a : new int[] {5, 9, 17}) {
            for (int b : new int[] {0, 1, 3}) {
                TokenFrames oldest = Check.of(text);
                int outcome = oldest.run(a, b, 90, 0);
                String due = Check.stateOf(oldest);
                for (int i = -40; i < 40; i++) {
                    int order = i % 8 == 0 ? i * 53687091 : i;
                    TokenFrames x = Check.of(text);
                    Check.equal("run in the order " + order, x.run(a, b, 90, order), outcome);
                    Check.same("what is told in the order " + order, Check.stateOf(x), due);
                }
            }
        }
    }

    private static void valueIsThatOfOutcomeNoughtAlone() {
        Check.sentence("if its outcome was 0, as a number; else 0");
        TokenFrames x = Check.of("m(a,b)=if a=1 then make(1,c)[0]else if a=2 then m(a,b)else if a=3 then make(b,c)else b;"
                + "c(i,s)=s[i];");
        Check.equal("run", x.run(0, -77, 300, 0), 0);
        Check.equal("value", x.value(), -77);
        Check.equal("value again", x.value(), -77);
        Check.equal("run", x.run(1, 5, 300, 0), 1);
        Check.equal("value behind outcome 1", x.value(), 0);
        Check.equal("run", x.run(3, 7, 300, 0), 0);
        Check.equal("value of an array", x.value(), 7);
        Check.equal("run", x.run(2, 5, 300, 0), 2);
        Check.equal("value behind outcome 2", x.value(), 0);
        Check.equal("run", x.run(0, LEAST, 300, 0), 0);
        Check.equal("value", x.value(), LEAST);
        // Too many calls though the value would be known.
        Check.read(x, "m(a)=let b=f()in a;f()=f();");
        Check.equal("run", x.run(6, 0, 300, 0), 2);
        Check.equal("value behind outcome 2", x.value(), 0);
    }

    private static void countTellsOfTheRun() {
        Check.sentence("what = 0 calls, 1 parts that became known, 2 cells that became known, 3 cells in all");
        // Of four cells, those below 3 wait for themselves: all of their parts are known but the FETCH.
        TokenFrames x = Check.of("m(a)=f(make(4,c))+a;f(x)=x;c(i,s)=s[if i<3 then i else 9];");
        Check.equal("run", x.run(1, 0, 300, 0), 0);
        int cell = 1 + 5;
        Check.counts(x, "of the run", 6, 5 + 1 + 3 * cell + cell + 1, 1, 4);
        Check.equal("run", x.run(1, 0, 5, 0), 2);
        Check.counts(x, "behind outcome 2", 0, 0, 0, 0);
        // A call is counted that is not known, a part only when it is.
        Check.read(x, "m(a)=f(a)+n();f(x)=n();n()=make(1,w)[0];w(i,s)=s[i];");
        Check.equal("run", x.run(1, 0, 300, 0), 1);
        Check.counts(x, "of what is not known", 6, 1 + 2 * 5, 0, 2);
    }

    private static void countRefusesOthers() {
        Check.sentence("IndexOutOfBoundsException: there is no such what");
        TokenFrames x = used();
        TokenFrames fresh = new TokenFrames();
        for (int what : new int[] {LEAST, -6, -1, 6, 7, 256, MOST}) {
            Check.failsInVain(x, "count(" + what + ")", IndexOutOfBoundsException.class, () -> x.count(what));
            Check.failsInVain(fresh, "count(" + what + ")", IndexOutOfBoundsException.class, () -> fresh.count(what));
        }
    }

    private static void definitionRefusesOthers() {
        Check.sentence("IndexOutOfBoundsException: also no such what");
        for (int what : new int[] {LEAST, -1, 2, 3, 256, MOST}) {
            TokenFrames x = used();
            for (int k : new int[] {0, 1, 2, 3, -1}) {
                Check.failsInVain(x, "definition(" + k + ", " + what + ")", IndexOutOfBoundsException.class,
                        () -> x.definition(k, what));
            }
        }
        for (int k : new int[] {LEAST, -1, 3, 4, 11, 12, 256, MOST}) {
            TokenFrames x = used();
            Check.failsInVain(x, "definition(" + k + ", 0)", IndexOutOfBoundsException.class, () -> x.definition(k, 0));
            Check.failsInVain(x, "definition(" + k + ", 1)", IndexOutOfBoundsException.class, () -> x.definition(k, 1));
        }
        Check.sentence("Of definition k: what = 0 how many arguments, 1 how many parts.");
        StringBuilder text = new StringBuilder();
        for (int k = 0; k < 12; k++) {
            String names = "a,b,c,d,e,f".substring(0, Math.max(0, k % 7 * 2 - 1));
            text.append((char) ('a' + k)).append('(').append(names).append(")=").append(Check.many(k * 5, "-")).append("1;");
        }
        Check.equal("read", Check.read(new TokenFrames(), text.toString()), 12);
        TokenFrames twelve = Check.of(text.toString());
        for (int k = 0; k < 12; k++) {
            Check.equal("arguments of " + k, twelve.definition(k, 0), k % 7);
            Check.equal("parts of " + k, twelve.definition(k, 1), k * 5 + 1);
        }
        Check.failsInVain(twelve, "definition(12, 0)", IndexOutOfBoundsException.class, () -> twelve.definition(12, 0));
    }

    private static void clearMakesEmpty() {
        Check.sentence("No definitions, an empty tape, no run.");
        TokenFrames x = used();
        for (int i = 0; i < 2; i++) {
            x.clear();
            Check.same("what is told behind clear", Check.stateOf(x), "value 0, counts 0 0 0 0 0 0");
            Check.failsInVain(x, "definition", IndexOutOfBoundsException.class, () -> x.definition(0, 0));
            Check.failsInVain(x, "run", IllegalStateException.class, () -> x.run(0, 0, 300, 0));
        }
        Check.equal("read behind clear", x.read(), -1);
        Check.equal("a text behind clear", Check.read(x, "m(a)=a*2;"), 1);
        Check.equal("run", x.run(4, 0, 1, 0), 0);
        Check.same("what is told", Check.stateOf(x), "value 8, counts 1 3 0 0 1 0, definition 1 3");
        // Nothing of a text half fed.
        Check.feed(x, "m()=1");
        x.clear();
        Check.equal("read of what was fed behind clear", Check.read(x, "f()=2;"), 1);
        TokenFrames fresh = new TokenFrames();
        fresh.clear();
        Check.same("what a new object tells behind clear", Check.stateOf(fresh), "value 0, counts 0 0 0 0 0 0");
    }

    private static void anObjectIsUsedForManyCalls() {
        Check.sentence("An object is used for at most 512 calls after it has been made");
        String text = "m(a)=" + Check.many(7, "make(40,c)+") + "make(a,c);c(i,s)=" + Check.many(59, "-") + "i;";
        TokenFrames x = Check.of(text);
        int calls = (text.length() + 15) / 16 + 1;
        while (calls < 510) {
            Check.equal("run after " + calls + " calls", x.run(calls % 2 == 0 ? 19 : 20, 0, 300, calls % 3),
                    calls % 2 == 0 ? 0 : 2);
            calls++;
        }
        Check.equal("run", x.run(19, 0, 300, 77), 0);
        Check.equal("value", x.value(), 299);
        TokenFrames y = new TokenFrames();
        for (int i = 0; i < 256; i++) {
            int n = y.feed(0x6d28293d, 0x28282828, 0x28282828, 0x31000000, 13);
            Check.equal("feed", n, 13);
            Check.equal("read", y.read(), -14);
        }
    }
}
