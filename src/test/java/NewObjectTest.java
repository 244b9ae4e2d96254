/** Promise 1: an empty tape, no definitions. */
public final class NewObjectTest {
    public static void main(String[] args) {
        TokenFrames x = new TokenFrames();
        for (int what = 0; what <= 5; what++) {
            Check.equal("count(" + what + ") of a new object", x.count(what), 0);
        }
        Check.equal("value of a new object", x.value(), 0);
        Check.fails("definition", IndexOutOfBoundsException.class, () -> x.definition(0, 0));
        Check.fails("run", IllegalStateException.class, () -> x.run(0, 0, 1, 0));
        Check.equal("read of a new object", x.read(), -1);

        TokenFrames other = Check.of("m()=7;");
        other.run(0, 0, 1, 0);
        TokenFrames fresh = new TokenFrames();
        Check.equal("definitions beside another object", fresh.count(4), 0);
        Check.equal("value beside another object", fresh.value(), 0);
        Check.end();
    }
}
