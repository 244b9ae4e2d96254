/** Promise 5: value. */
public final class ValueTest {
    public static void main(String[] args) {
        TokenFrames x = new TokenFrames();
        Check.equal("value without a run", x.value(), 0);
        Check.read(x, "m(a,b)=if a<0 then make(1,c)[0] else if b then m(a,b) else make(a,c);c(i,s)=if 1 then s[0] else 0;");
        Check.equal("value before a run", x.value(), 0);
        Check.equal("run", x.run(7, 0, 9, 0), 0);
        Check.equal("value of an array", x.value(), 7);
        Check.equal("value asked again", x.value(), 7);
        Check.equal("run", x.run(-1, 0, 9, 0), 1);
        Check.equal("value behind outcome 1", x.value(), 0);
        x.run(6, 0, 9, 0);
        Check.equal("run", x.run(6, 1, 9, 0), 2);
        Check.equal("value behind outcome 2", x.value(), 0);
        x.run(5, 0, 9, 0);
        Check.read(x, "m()=8;");
        Check.equal("value behind another text", x.value(), 5);
        Check.read(x, "m()=!");
        Check.equal("value behind a fault", x.value(), 5);
        Check.fails("run", IllegalArgumentException.class, () -> x.run(1, 1, 0, 0));
        Check.equal("value behind a run that throws", x.value(), 5);
        x.run(0, 0, 1, 0);
        Check.equal("value of the latest run", x.value(), 8);
        Check.read(x, "m(a)=-a;");
        x.run(9, 0, 1, 0);
        Check.equal("value below 0", x.value(), -9);
        x.clear();
        Check.equal("value behind clear", x.value(), 0);
        Check.end();
    }
}
