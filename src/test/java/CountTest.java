/** Promise 6: count. */
public final class CountTest {
    public static void main(String[] args) {
        countsRuns();
        keepsTheLatestRun();
        countsWhatThereIsNow();
        refusesOthers();
        Check.end();
    }

    private static void countsRuns() {
        TokenFrames x = Check.of("m(a,b)=let x=make(3,c,a) in x[0]+x[b];c(i,s,k)=s[i+k];");
        x.run(1, 2, 9, 0);
        Check.counts(x, "when all is known", 4, 26, 3, 3);
        x.run(0, 0, 9, 0);
        Check.counts(x, "when cells wait for themselves", 4, 19, 0, 3);
        x.run(2, 2, 9, 0);
        Check.counts(x, "when all is known", 4, 26, 3, 3);
        x.run(1, 2, 3, 0);
        Check.counts(x, "behind outcome 2", 0, 0, 0, 0);

        Check.read(x, "m(a)=let b=f()in make(a,c)[0];f()=make(1,d)[0];c(i,s)=if i then s[i]else 7;d(i,s)=s[0];");
        // m: let, f() not, make, a, fetch, 0; f: make, 1, 0; d: s, 0.
        x.run(1, 0, 9, 0);
        Check.counts(x, "with one cell of two known", 4, 5 + 3 + 2 + 3, 1, 2);
        x.run(3, 0, 9, 0);
        Check.counts(x, "with one cell of four known", 6, 5 + 3 + 2 + 3 + 2 * 3, 1, 4);

        Check.read(x, "m(a)=f(a,a)+1;f(a,b)=a;");
        x.run(1, 0, 9, 0);
        Check.counts(x, "of two calls", 2, 6, 0, 0);
        Check.read(x, "m(a)=make(a,c)+make(2,c);c(i,s)=1;");
        x.run(3, 0, 9, 0);
        Check.counts(x, "of two arrays", 6, 5 + 5, 5, 5);
    }

    private static void keepsTheLatestRun() {
        TokenFrames x = Check.of("m(a)=make(a,c);c(i,s)=1;");
        Check.counts(x, "before a run", 0, 0, 0, 0);
        x.run(2, 0, 9, 0);
        Check.counts(x, "of a run", 3, 4, 2, 2);
        Check.read(x, "m()=1+1;");
        Check.counts(x, "behind another text", 3, 4, 2, 2);
        Check.read(x, "");
        Check.counts(x, "behind a fault", 3, 4, 2, 2);
        Check.fails("run", IllegalArgumentException.class, () -> x.run(0, 0, 301, 0));
        Check.counts(x, "behind a run that throws", 3, 4, 2, 2);
        x.run(2, 0, 9, 0);
        Check.counts(x, "of the latest run", 1, 3, 0, 0);
        x.clear();
        Check.counts(x, "behind clear", 0, 0, 0, 0);
    }

    private static void countsWhatThereIsNow() {
        TokenFrames x = new TokenFrames();
        Check.feed(x, "m()=1;f()=2;");
        Check.equal("definitions before read", x.count(4), 0);
        Check.equal("bytes before read", x.count(5), 12);
        x.read();
        Check.equal("definitions", x.count(4), 2);
        Check.equal("bytes", x.count(5), 0);
        Check.feed(x, "m()");
        x.run(0, 0, 1, 0);
        Check.equal("definitions behind a run", x.count(4), 2);
        Check.equal("bytes behind a run", x.count(5), 3);
        x.read();
        Check.equal("definitions behind a fault", x.count(4), 2);
        Check.equal("bytes behind a fault", x.count(5), 0);
        Check.read(x, "m()=m();");
        x.run(0, 0, 1, 0);
        Check.equal("definitions behind outcome 2", x.count(4), 1);
    }

    private static void refusesOthers() {
        TokenFrames x = Check.of("m()=1;");
        for (int what : new int[] {-1, 6, 7, Integer.MIN_VALUE, Integer.MAX_VALUE}) {
            Check.fails("count(" + what + ")", IndexOutOfBoundsException.class, () -> x.count(what));
        }
    }
}
