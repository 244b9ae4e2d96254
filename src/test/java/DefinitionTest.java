/** Promise 7: definition. */
public final class DefinitionTest {
    public static void main(String[] args) {
        TokenFrames x = new TokenFrames();
        refuses(x, 0, 0);
        Check.read(x, "m(a)=f(a,1)[a];f(a,b)=if a<b then let c=-a in c else 0;g()=make(1,f);h(a,b,c,d,e,f)=1;");
        int[] arguments = {1, 2, 0, 6};
        int[] parts = {5, 9, 2, 1};
        for (int k = 0; k < 4; k++) {
            Check.equal("arguments of " + k, x.definition(k, 0), arguments[k]);
            Check.equal("parts of " + k, x.definition(k, 1), parts[k]);
            refuses(x, k, 2);
            refuses(x, k, -1);
            refuses(x, k, Integer.MAX_VALUE);
            refuses(x, k, Integer.MIN_VALUE);
        }
        for (int k : new int[] {-1, 4, 12, Integer.MIN_VALUE, Integer.MAX_VALUE}) {
            refuses(x, k, 0);
            refuses(x, k, 1);
            refuses(x, k, 5);
        }
        Check.read(x, "m(a,b,c)=1+1;");
        Check.equal("arguments of a new text", x.definition(0, 0), 3);
        Check.equal("parts of a new text", x.definition(0, 1), 3);
        refuses(x, 1, 0);
        Check.read(x, "m()=1;f()=1;g()=");
        Check.equal("arguments behind a fault", x.definition(0, 0), 3);
        refuses(x, 1, 0);
        x.clear();
        refuses(x, 0, 0);
        StringBuilder twelve = new StringBuilder();
        for (int k = 0; k < 12; k++) {
            twelve.append((char) ('a' + k)).append("()=").append(Check.many(k, "-")).append("1;");
        }
        Check.read(x, twelve.toString());
        for (int k = 0; k < 12; k++) {
            Check.equal("parts of " + k, x.definition(k, 1), k + 1);
        }
        refuses(x, 12, 1);
        Check.end();
    }

    private static void refuses(TokenFrames x, int k, int what) {
        Check.fails("definition(" + k + ", " + what + ")", IndexOutOfBoundsException.class, () -> x.definition(k, what));
    }
}
