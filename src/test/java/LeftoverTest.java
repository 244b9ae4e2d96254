/** The document's sentences on what is left of an earlier text or run, and what is not. */
public final class LeftoverTest {
    // Runs that leave much behind: known, unknown and too many.
    private static final String MACHINE = "m(a,b)=if a<0 then make(3,c)[0]else if b then m(a-1,b)+make(a,d)else make(a,d);"
            + "c(i,s)=s[i];d(i,s)=if i then s[i-1]+1 else 5;";

    public static void main(String[] args) {
        theTapeIsEmptyBehindRead();
        thoseBeforeStay();
        aTextTakesThePlaceOfAnother();
        nothingIsLeftOfATextWithAFault();
        valueStaysWhateverIsRead();
        countsStayWhateverIsRead();
        countsAreNoughtWithoutARun();
        countsAreNoughtBehindTooManyCalls();
        theLatestRunCounts();
        noRunLeavesAnythingToTheNext();
        aRunLeavesTapeAndDefinitions();
        countsOfNowAreNotOfTheRun();
        nothingIsLeftBehindClear();
        Check.end();
    }

    private static void theTapeIsEmptyBehindRead() {
        Check.sentence("The tape (which is empty then)");
        TokenFrames x = new TokenFrames();
        for (String text : new String[] {"m()=1;", "m()=", "!", "m()=f();", "", "m(a)=a;f()=2;"}) {
            Check.read(x, text);
            Check.equal("bytes behind " + text, x.count(5), 0);
            Check.equal("read of nothing behind " + text, x.read(), -1);
            Check.equal("bytes behind that", x.count(5), 0);
            Check.equal("feed behind " + text, x.feed(0x21000000, 0, 0, 0, 1), 1);
            Check.equal("the place behind " + text, x.read(), -1);
        }
        // What stood on the tape before is beyond its end now.
        Check.read(x, "m()=1+2+3;");
        Check.equal("a shorter one", Check.read(x, "m()=1"), -6);
        Check.equal("one that ends in a blank", Check.read(x, "m()=1 "), -7);
        Check.read(x, "m()=q(1);");
        Check.equal("a name alone", Check.read(x, "m()=q"), -5);
        Check.read(x, "abcdefghijkl");
        Check.equal("a name of eight letters", Check.read(x, "abcdefgh"), -9);
    }

    private static void thoseBeforeStay() {
        Check.sentence("then those before stay");
        TokenFrames x = Check.of("m(a)=f(a)+1;f(b)=b*2;");
        String[] faults = {"", " ", "x", "x()=1;y()=!", "x()=y();", "m(a,b)=a+b;f()=1+1+1;g()=1;1", "m()=1;m()=2;",
            "m(a)=f(a)-1;f(b)=b*3;g()=h();", "m(a)=-a", "m(a,a)=1;", "m()=" + Check.many(60, "-") + "1;",
            "m()=" + Check.many(21, "(") + "1"};
        for (String text : faults) {
            Check.equal("whether there is a fault in " + text, Check.read(x, text) < 0 ? 1 : 0, 1);
            Check.equal("run behind " + text, x.run(20, 0, 2, 0), 0);
            Check.same("what is told behind " + text, Check.stateOf(x),
                    "value 41, counts 2 7 0 0 2 0, definition 1 4, definition 1 3");
        }
        TokenFrames y = new TokenFrames();
        for (String text : faults) {
            Check.read(y, text);
            Check.equal("definitions when there were none", y.count(4), 0);
            Check.fails("run", IllegalStateException.class, () -> y.run(0, 0, 1, 0));
        }
    }

    private static void aTextTakesThePlaceOfAnother() {
        Check.sentence("The tape (which is empty then) is a text: how many definitions it has");
        TokenFrames x = new TokenFrames();
        StringBuilder twelve = new StringBuilder();
        for (char c = 'a'; c < 'm'; c++) {
            twelve.append(c).append("(x,y,z)=").append(Check.many(40, "-")).append("x;");
        }
        for (int i = 0; i < 3; i++) {
            Check.equal("twelve", Check.read(x, twelve.toString()), 12);
            Check.equal("the last one's parts", x.definition(11, 1), 41);
            Check.equal("one", Check.read(x, "a(x)=x+1;"), 1);
            Check.same("what is told", Check.stateOf(x).replaceFirst(".* 1 0, ", ""), "definition 1 3");
            Check.fails("definition(1, 0)", IndexOutOfBoundsException.class, () -> x.definition(1, 0));
            Check.equal("a call of one of those before", Check.read(x, "a()=b(1,2,3);"), -5);
            Check.equal("a name of one before", Check.read(x, "b()=x;"), -5);
            Check.equal("run", x.run(6, 0, 1, 0), 0);
            Check.equal("value", x.value(), 7);
        }
    }

    private static void nothingIsLeftOfATextWithAFault() {
        Check.sentence("-1 less the place of its fault: then those before stay");
        TokenFrames x = new TokenFrames();
        String[] faults = {"m(a,b,c)=(((a+(b[c", "m(a)=let b=a in let c=b in (", "a()=1;b()=1;c()=1;d()=",
            "m()=" + Check.many(20, "(") + Check.many(59, "-"), "m()=if 1 then if 2 then if 3 then", "m()=make(1,d,2,3,",
            "m(a,b,c,d,e,f", "m()=1<", "m()=f(1,2,3,4,5,6,7,8,9,"};
        for (String fault : faults) {
            Check.equal("the place in " + fault, Check.read(x, fault), -1 - fault.length());
            Check.equal("a name of before, behind " + fault, Check.read(x, "m()=b;"), -5);
            Check.equal("names of before", Check.read(x, "a(a,b,c,d,e,f)=1;b()=2;m()=3;"), 3);
            Check.equal("one comparison", Check.read(x, "m()=1<2;"), 1);
            Check.equal("twenty in another",
                    Check.read(x, "m()=" + Check.many(20, "(") + Check.many(59, "-") + "7" + Check.many(20, ")") + ";"), 1);
            Check.equal("parts", x.definition(0, 1), 60);
            Check.equal("run", x.run(0, 0, 1, 0), 0);
            Check.equal("value", x.value(), -7);
        }
    }

    private static void valueStaysWhateverIsRead() {
        Check.sentence("The value of the latest run, whatever was read behind it");
        TokenFrames x = new TokenFrames();
        Check.equal("value without a run", x.value(), 0);
        Check.read(x, MACHINE);
        Check.equal("value before a run", x.value(), 0);
        Check.equal("run", x.run(7, 0, 300, 0), 0);
        Check.equal("value", x.value(), 7);
        for (String text : new String[] {"m()=8;", "m()=!", "", "a()=1;b()=2;", "m()=m();", MACHINE}) {
            Check.feed(x, text);
            Check.equal("value behind a feed", x.value(), 7);
            x.read();
            Check.equal("value behind " + text, x.value(), 7);
        }
        Check.fails("run", IllegalArgumentException.class, () -> x.run(1, 1, 0, 0));
        Check.equal("value behind a run that throws", x.value(), 7);
        x.run(3, 0, 300, 0);
        Check.equal("value of the latest run", x.value(), 3);
    }

    private static void countsStayWhateverIsRead() {
        Check.sentence("Of the latest run, whatever was read behind it");
        TokenFrames x = Check.of(MACHINE);
        x.run(4, 0, 300, 0);
        Check.counts(x, "of a run", 5, 8 + 3 + 3 * 9, 4, 4);
        for (String text : new String[] {"m()=8;", "m()=!", "", "a()=1;b()=2;", "m()=m();", MACHINE}) {
            Check.feed(x, text);
            Check.counts(x, "behind a feed", 5, 38, 4, 4);
            x.read();
            Check.counts(x, "behind " + text, 5, 38, 4, 4);
        }
        Check.fails("run", IllegalArgumentException.class, () -> x.run(1, 1, 301, 0));
        Check.counts(x, "behind a run that throws", 5, 38, 4, 4);
        // Also when the outcome was 1.
        Check.equal("run", x.run(-1, 0, 300, 0), 1);
        Check.counts(x, "of outcome 1", 4, 6 + 3 * 2, 0, 3);
        Check.read(x, "m()=8;");
        Check.counts(x, "of outcome 1", 4, 12, 0, 3);
    }

    private static void countsAreNoughtWithoutARun() {
        Check.sentence("0 without one");
        TokenFrames x = new TokenFrames();
        Check.counts(x, "of a new object", 0, 0, 0, 0);
        Check.feed(x, MACHINE);
        Check.counts(x, "behind feed", 0, 0, 0, 0);
        x.read();
        Check.counts(x, "behind read", 0, 0, 0, 0);
        Check.fails("run", IllegalArgumentException.class, () -> x.run(4, 0, 0, 0));
        Check.counts(x, "behind a run that throws", 0, 0, 0, 0);
        x.run(4, 0, 300, 0);
        x.clear();
        Check.counts(x, "behind clear", 0, 0, 0, 0);
        Check.read(x, MACHINE);
        Check.counts(x, "behind clear and read", 0, 0, 0, 0);
        Check.equal("value behind clear and read", x.value(), 0);
    }

    private static void countsAreNoughtBehindTooManyCalls() {
        Check.sentence("and when its outcome was 2");
        TokenFrames x = Check.of(MACHINE);
        Check.equal("run", x.run(4, 0, 300, 0), 0);
        Check.equal("run", x.run(4, 0, 4, 0), 2);
        Check.counts(x, "behind outcome 2", 0, 0, 0, 0);
        Check.equal("definitions behind outcome 2", x.count(4), 3);
        Check.equal("value behind outcome 2", x.value(), 0);
        Check.read(x, "m()=1;");
        Check.counts(x, "behind outcome 2 and read", 0, 0, 0, 0);
        Check.equal("run", x.run(0, 0, 1, 0), 0);
        Check.counts(x, "of the next run", 1, 1, 0, 0);
    }

    private static void theLatestRunCounts() {
        Check.sentence("Of the latest run");
        TokenFrames x = Check.of("m(a)=if a<0 then make(1,c)[0]else if a>9 then m(a)else make(a,d);c(i,s)=s[i];d(i,s)=i;");
        int[] told = {5, -1, 3, 10, 0, -1, 10, 9};
        int[] outcomes = {0, 1, 0, 2, 0, 1, 2, 0};
        int[] values = {5, 0, 3, 0, 0, 0, 0, 9};
        int[][] counts = {{6, 15, 5, 5}, {2, 6 + 2, 0, 1}, {4, 13, 3, 3}, {0, 0, 0, 0}, {1, 10, 0, 0},
            {2, 8, 0, 1}, {0, 0, 0, 0}, {10, 19, 9, 9}};
        for (int i = 0; i < told.length; i++) {
            Check.equal("run " + i, x.run(told[i], 0, 300, i), outcomes[i]);
            Check.equal("value of run " + i, x.value(), values[i]);
            Check.counts(x, "of run " + i, counts[i][0], counts[i][1], counts[i][2], counts[i][3]);
        }
    }

    private static void noRunLeavesAnythingToTheNext() {
        Check.sentence("The first definition is run: its outcome.");
        String[] texts = {MACHINE, "m(a,b)=make(40,c)[b];c(i,s)=if i then s[i-1]+1 else 3;",
            "m(a,b)=f(a,f(b,make(a,c)));f(a,b)=if a then b else a;c(i,s)=i;", "m(a,b)=make(2,c)[1];c(i,s)=s[i];"};
        TokenFrames x = new TokenFrames();
        for (int i = 0; i < 12; i++) {
            String text = texts[i * 7 % 4];
            int a = i % 5 * 3 - 3;
            int b = i % 3 == 0 ? 0 : i;
            int calls = i % 4 == 3 ? 20 : 300;
            TokenFrames fresh = Check.of(text);
            Check.read(x, text);
            Check.equal("outcome of " + text, x.run(a, b, calls, i), fresh.run(a, b, calls, 0));
            Check.same("what is told of " + text, Check.stateOf(x), Check.stateOf(fresh));
            Check.equal("outcome of the same again", x.run(a, b, calls, -i), fresh.run(a, b, calls, 0));
            Check.same("what is told of the same again", Check.stateOf(x), Check.stateOf(fresh));
        }
    }

    private static void aRunLeavesTapeAndDefinitions() {
        Check.sentence("The first definition is run");
        TokenFrames x = Check.of(MACHINE);
        Check.feed(x, "m(a)=a");
        for (int calls : new int[] {300, 3, 1}) {
            x.run(4, 0, calls, 1);
            Check.equal("bytes behind a run", x.count(5), 6);
            Check.equal("definitions behind a run", x.count(4), 3);
            Check.equal("parts behind a run", x.definition(2, 1), 10);
        }
        Check.feed(x, "*3;");
        Check.equal("read of what was fed before and behind", x.read(), 1);
        x.run(5, 0, 1, 0);
        Check.equal("value", x.value(), 15);
    }

    private static void countsOfNowAreNotOfTheRun() {
        Check.sentence("4 definitions that there are now, 5 bytes on the tape");
        TokenFrames x = new TokenFrames();
        Check.feed(x, "m()=1;f()=2;");
        Check.equal("definitions before read", x.count(4), 0);
        Check.equal("bytes before read", x.count(5), 12);
        x.read();
        Check.equal("definitions behind read", x.count(4), 2);
        Check.equal("bytes behind read", x.count(5), 0);
        x.run(0, 0, 1, 0);
        Check.read(x, "m()=1;f()=2;g()=3;");
        Check.equal("definitions of now", x.count(4), 3);
        Check.feed(x, Check.many(1500, "!"));
        Check.equal("definitions while the next text is fed", x.count(4), 3);
        Check.equal("bytes while the next text is fed", x.count(5), 1500);
        Check.equal("read", x.read(), -1);
        Check.equal("definitions behind a fault", x.count(4), 3);
        Check.equal("bytes behind a fault", x.count(5), 0);
        Check.read(x, "m()=m();");
        x.run(0, 0, 1, 0);
        Check.equal("definitions behind outcome 2", x.count(4), 1);
    }

    private static void nothingIsLeftBehindClear() {
        Check.sentence("No definitions, an empty tape, no run.");
        TokenFrames x = Check.of(MACHINE);
        for (int calls : new int[] {300, 4}) {
            x.run(4, 0, calls, 0);
            Check.feed(x, "m()=5;!!!");
            x.clear();
            Check.same("what is told behind clear", Check.stateOf(x), "value 0, counts 0 0 0 0 0 0");
            Check.equal("read behind clear", x.read(), -1);
            Check.fails("run behind clear and a fault", IllegalStateException.class, () -> x.run(0, 0, 1, 0));
            Check.equal("a call of what was cleared", Check.read(x, "x()=d(1,2);"), -5);
            Check.same("what is told behind that", Check.stateOf(x), "value 0, counts 0 0 0 0 0 0");
            Check.equal("the same text again", Check.read(x, MACHINE), 3);
        }
    }
}
