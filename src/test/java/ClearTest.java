/** Promise 8: clear. */
public final class ClearTest {
    public static void main(String[] args) {
        TokenFrames x = new TokenFrames();
        x.clear();
        Check.equal("definitions of a new object", x.count(4), 0);
        Check.read(x, "m(a)=make(a,c);c(i,s)=1;");
        x.run(3, 0, 9, 0);
        Check.feed(x, "m()=");
        x.clear();
        for (int what = 0; what <= 5; what++) {
            Check.equal("count(" + what + ") behind clear", x.count(what), 0);
        }
        Check.equal("value behind clear", x.value(), 0);
        Check.fails("definition", IndexOutOfBoundsException.class, () -> x.definition(0, 0));
        Check.fails("run", IllegalStateException.class, () -> x.run(0, 0, 1, 0));
        Check.equal("read behind clear", x.read(), -1);
        Check.fails("run behind a fault", IllegalStateException.class, () -> x.run(0, 0, 1, 0));
        Check.equal("a text behind clear", Check.read(x, "m(a)=a*2;"), 1);
        Check.equal("run", x.run(4, 0, 1, 0), 0);
        Check.equal("value", x.value(), 8);
        x.clear();
        x.clear();
        Check.equal("definitions", x.count(4), 0);
        Check.end();
    }
}
