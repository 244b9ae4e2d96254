/** Promise 2: feed. */
public final class FeedTest {
    public static void main(String[] args) {
        countsBytes();
        takesHighestByteFirst();
        takesFirstOnly();
        refusesWrongNumbers();
        refusesMoreThanTheTapeHolds();
        Check.end();
    }

    private static void countsBytes() {
        TokenFrames x = new TokenFrames();
        int sum = 0;
        for (int n = 1; n <= 16; n++) {
            sum += n;
            Check.equal("feed of " + n, x.feed(0, 0, 0, 0, n), sum);
            Check.equal("count(5)", x.count(5), sum);
        }
        x.read();
        Check.equal("count(5) behind read", x.count(5), 0);
        Check.equal("feed behind read", x.feed(0, 0, 0, 0, 3), 3);
    }

    private static void takesHighestByteFirst() {
        TokenFrames x = new TokenFrames();
        // m(a,b)=a/b+1234;
        x.feed(0x6d28612c, 0x62293d61, 0x2f622b31, 0x3233343b, 16);
        Check.equal("read", x.read(), 1);
        x.run(100, 7, 1, 0);
        Check.equal("value", x.value(), 1248);
        // Bytes above 127 are bytes as well, and none that may stand anywhere.
        x.feed(0x6d28293d, 0xff313b00, 0, 0, 7);
        Check.equal("read with a byte 255", x.read(), -5);
        x.feed(0x6d28293d, 0x31ff3b00, 0, 0, 7);
        Check.equal("read with a byte 255", x.read(), -6);
    }

    private static void takesFirstOnly() {
        TokenFrames x = new TokenFrames();
        x.feed(0x6d28293d, 0x31323334, -1, -1, 6);
        x.feed(0x3b3b3b3b, 0, 0, 0, 1);
        Check.equal("read", x.read(), 1);
        x.run(0, 0, 1, 0);
        Check.equal("value", x.value(), 12);
    }

    private static void refusesWrongNumbers() {
        TokenFrames x = new TokenFrames();
        x.feed(0, 0, 0, 0, 2);
        for (int n : new int[] {0, 17, -1, 18, Integer.MIN_VALUE, Integer.MAX_VALUE}) {
            Check.fails("feed of " + n, IllegalArgumentException.class, () -> x.feed(1, 2, 3, 4, n));
            Check.equal("count(5) behind it", x.count(5), 2);
        }
    }

    private static void refusesMoreThanTheTapeHolds() {
        TokenFrames x = new TokenFrames();
        for (int i = 0; i < 93; i++) {
            x.feed(0x20202020, 0x20202020, 0x20202020, 0x20202020, 16);
        }
        Check.equal("feed", x.feed(0x20202020, 0x2020206d, 0x28293d00, 0, 11), 1499);
        Check.fails("feed to 1501", UnsupportedOperationException.class, () -> x.feed(0, 0, 0, 0, 2));
        Check.fails("feed to 1515", UnsupportedOperationException.class, () -> x.feed(0, 0, 0, 0, 16));
        Check.fails("feed of 17", IllegalArgumentException.class, () -> x.feed(0, 0, 0, 0, 17));
        Check.equal("count(5)", x.count(5), 1499);
        Check.equal("feed to 1500", x.feed(0x31000000, 0, 0, 0, 1), 1500);
        Check.fails("feed to 1501", UnsupportedOperationException.class, () -> x.feed(0, 0, 0, 0, 1));
        Check.fails("feed of 0", IllegalArgumentException.class, () -> x.feed(0, 0, 0, 0, 0));
        // All that was fed has its place, and nothing of what was refused.
        Check.equal("read", x.read(), -1501);
        Check.equal("feed", x.feed(0, 0, 0, 0, 16), 16);
    }
}
