/** Promise 4: run, its outcomes and what is worked out. */
public final class RunTest {
    public static void main(String[] args) {
        refusesWrongCalls();
        worksOutNumbers();
        bindsSigns();
        worksOutChoices();
        worksOutNames();
        worksOutArrays();
        tellsNumbers();
        tellsWhatCannotBecomeKnown();
        tellsTooManyCalls();
        givesTheSameInEveryOrder();
        runsTheLargest();
        Check.end();
    }

    private static void refusesWrongCalls() {
        TokenFrames x = new TokenFrames();
        Check.fails("run without definitions", IllegalStateException.class, () -> x.run(0, 0, 1, 0));
        Check.fails("both", IllegalStateException.class, () -> x.run(0, 0, 0, 0));
        Check.read(x, "m(a)=a;");
        x.run(5, 0, 1, 0);
        for (int calls : new int[] {0, 301, -1, Integer.MIN_VALUE, Integer.MAX_VALUE}) {
            Check.fails("calls " + calls, IllegalArgumentException.class, () -> x.run(1, 0, calls, 0));
            Check.equal("value behind it", x.value(), 5);
            Check.counts(x, "behind it", 1, 1, 0, 0);
        }
        Check.equal("300 calls", x.run(6, 0, 300, 0), 0);
        Check.equal("value", x.value(), 6);
    }

    private static void worksOutNumbers() {
        int least = Integer.MIN_VALUE;
        Check.works("m(a,b)=a+b;", 2147483647, 1, least);
        Check.works("m(a,b)=a-b;", least, 1, 2147483647);
        Check.works("m(a,b)=a*b;", 65537, 65537, 131073);
        Check.works("m(a,b)=-a;", least, 0, least);
        Check.works("m(a,b)=-a;", 5, 0, -5);
        Check.works("m(a,b)=a/b;", 7, 2, 3);
        Check.works("m(a,b)=a/b;", -7, 2, -3);
        Check.works("m(a,b)=a/b;", 7, -2, -3);
        Check.works("m(a,b)=a/b;", 7, 0, 0);
        Check.works("m(a,b)=a/b;", least, -1, least);
        Check.works("m(a,b)=a%b;", 7, 3, 1);
        Check.works("m(a,b)=a%b;", -7, 3, -1);
        Check.works("m(a,b)=a%b;", 7, -3, 1);
        Check.works("m(a,b)=a%b;", 7, 0, 0);
        Check.works("m(a,b)=a%b;", least, -1, 0);
        String all = "m(a,b)=(a<b)*100+(a=b)*10+(a>b);";
        Check.works(all, 1, 2, 100);
        Check.works(all, 2, 2, 10);
        Check.works(all, 3, 2, 1);
        Check.works(all, least, 2147483647, 100);
        Check.works("m()=2147483647;", 1, 2, 2147483647);
        Check.works("m()=00012;", 1, 2, 12);
    }

    private static void bindsSigns() {
        Check.works("m()=1+2*3-4;", 0, 0, 3);
        Check.works("m()=10-3-2;", 0, 0, 5);
        Check.works("m()=100/7%5*2;", 0, 0, 8);
        Check.works("m()=2*3/4;", 0, 0, 1);
        Check.works("m()=2*(3/4);", 0, 0, 0);
        Check.works("m()=-3%2*4;", 0, 0, -4);
        Check.works("m()=1- -1;", 0, 0, 2);
        Check.works("m()=--5;", 0, 0, 5);
        Check.works("m()=-2+5;", 0, 0, 3);
        Check.works("m()=1+1<3;", 0, 0, 1);
        Check.works("m()=3<1+1;", 0, 0, 0);
        Check.works("m()=2=1+1;", 0, 0, 1);
        Check.works("m()=(1<2)+(3>2);", 0, 0, 2);
        Check.works("m()=-make(3,c)[2];c(i,s)=i+5;", 0, 0, -7);
        Check.works("m()=1+make(3,c)[2]*2;c(i,s)=i+5;", 0, 0, 15);
        Check.works("m()=(-make(3,c))[2];c(i,s)=i+5;", 0, 0, 0);
    }

    private static void worksOutChoices() {
        String text = "m(a)=if a then 10 else 20+1;";
        Check.works(text, 1, 0, 10);
        Check.works(text, -1, 0, 10);
        Check.works(text, 0, 0, 21);
        Check.works("m(a,b)=if a then if b then 1 else 2 else 3;", 1, 1, 1);
        Check.works("m(a,b)=if a then if b then 1 else 2 else 3;", 1, 0, 2);
        Check.works("m(a,b)=if a then if b then 1 else 2 else 3;", 0, 1, 3);
        Check.works("m(a)=if make(a,c) then 1 else 2;c(i,s)=0;", 1, 0, 1);
        Check.works("m(a)=if make(a,c) then 1 else 2;c(i,s)=0;", 0, 0, 2);
        // What is not taken is not reached: this would call without end.
        Check.works("m(a)=if a then m(a-1)+a else 0;", 10, 0, 55);
        TokenFrames x = Check.of("m(a)=if a then 1+2+3 else f();f()=f();");
        Check.equal("run", x.run(1, 0, 1, 0), 0);
        Check.counts(x, "without the other expression", 1, 7, 0, 0);
    }

    private static void worksOutNames() {
        Check.works("m(a,b)=let c=a+b in let d=c*c in d-c;", 2, 3, 20);
        Check.works("m(a,b)=let a=a+1 in let a=a*2 in a;", 4, 0, 10);
        Check.works("m(a,b)=(let a=b in a)*100+a;", 1, 2, 201);
        Check.works("m(a)=let b=(let a=9 in a)in a*10+b;", 3, 0, 39);
        Check.works("m(a,b)=f(b,a);f(a,b)=a*10+b;", 1, 2, 21);
        Check.works("m(a,b)=f(f(a,b),f(b,a));f(x,y)=x*10+y;", 1, 2, 141);
        Check.works("m(f)=f(f)+f;f(m)=m*m;", 5, 0, 30);
        Check.works("m(a,b)=g(1,2,3,4,5,6);g(a,b,c,d,e,f)=a*b-c*d+e*f;", 0, 0, 20);
        Check.works("m(a,b)=make(3,g,a,b,7,8)[2];g(i,s,c,d,e,f)=i+10*s+100*c+1000*d+10000*e+100000*f;",
                4, 5, 2 + 30 + 400 + 5000 + 70000 + 800000);
    }

    private static void worksOutArrays() {
        String size = "m(a)=make(a,c);c(i,s)=i;";
        Check.works(size, 0, 0, 0);
        Check.works(size, 1, 0, 1);
        Check.works(size, 40, 0, 40);
        Check.works(size, 41, 0, 40);
        Check.works(size, 2147483647, 0, 40);
        Check.works(size, -1, 0, 0);
        Check.works(size, Integer.MIN_VALUE, 0, 0);
        String fetch = "m(a,b)=make(a,c)[b];c(i,s)=i*i+100;";
        Check.works(fetch, 5, 0, 100);
        Check.works(fetch, 5, 4, 116);
        Check.works(fetch, 5, 5, 0);
        Check.works(fetch, 5, -1, 0);
        Check.works(fetch, 50, 39, 1621);
        Check.works(fetch, 50, 40, 0);
        Check.works("m(a,b)=a[b];", 5, 1, 0);
        Check.works("m(a,b)=make(make(3,c),d)[make(2,c)];c(i,s)=i;d(i,s)=i+s*10;", 0, 0, 32);
        // An array goes wherever a value goes.
        Check.works("m(a)=f(make(a,c),if a then make(a,c)else 0);f(x,y)=let z=y in x[1]*z[2];c(i,s)=i+3;", 4, 0, 20);
        Check.works("m()=make(3,r)[2][1];r(i,s)=make(3,c,i);c(i,s,k)=k*10+i;", 0, 0, 21);
        Check.works("m(a)=g(a)[3];g(a)=make(a,c);c(i,s)=i*7;", 5, 0, 21);
        Check.works("m(a)=make(a,c)[0][0][0][1];c(i,s)=if i then 9 else s;", 2, 0, 9);
        // As a number an array loses its cells.
        Check.works("m()=(make(3,c)+0)[1];c(i,s)=5;", 0, 0, 0);
        Check.works("m()=make(3,c)*make(4,c)<make(2,c);c(i,s)=5;", 0, 0, 0);
        Check.works("m()=make(3,c)=3;c(i,s)=5;", 0, 0, 1);
        // Cells wait for one another, forwards and backwards.
        Check.works("m(a)=make(a,c)[0];c(i,s)=if i=s-1 then 1 else s[i+1]*2;", 20, 0, 524288);
        Check.works("m(a)=make(a,c)[a-1];c(i,s)=if i<2 then i else s[i-1]+s[i-2];", 40, 0, 63245986);
    }

    private static void tellsNumbers() {
        Check.works("m(a,b,c,d,e,f)=a+b*10+(c+d+e+f)*100;", 3, 4, 43);
        Check.works("m()=8;", 3, 4, 8);
        Check.works("m(a)=a;", 3, 4, 3);
        Check.works("m(a,b)=b;", 3, 4, 4);
        // The first definition is run, wherever it is called from.
        Check.works("z(a)=y(a)+1;y(a)=if a then z(a-1) else 5;", 3, 0, 9);
    }

    private static void tellsWhatCannotBecomeKnown() {
        for (int order = 0; order < 5; order++) {
            TokenFrames x = Check.of("m(a)=make(2,c)[a];c(i,s)=if i then s[1]else s[5];");
            Check.equal("cell that waits for itself", x.run(1, 0, 9, order), 1);
            Check.equal("its value", x.value(), 0);
            Check.equal("the other cell", x.run(0, 0, 9, order), 0);
            Check.equal("cells that wait in a ring",
                    Check.of("m(a)=make(5,c)[2];c(i,s)=s[(i+1)%5];").run(0, 0, 9, order), 1);
            // An index is needed also where the other value has no cells.
            Check.equal("an index that is not known",
                    Check.of("m(a)=a[f()];f()=make(1,c)[0];c(i,s)=s[0];").run(0, 0, 9, order), 1);
            Check.equal("a product by 0",
                    Check.of("m(a)=0*f();f()=make(1,c)[0];c(i,s)=s[0];").run(0, 0, 9, order), 1);
            Check.equal("a size that is not known",
                    Check.of("m(a)=make(f(),c);f()=make(1,c)[0];c(i,s)=s[0];").run(0, 0, 9, order), 1);
            // What nobody asks for does not hinder.
            Check.equal("an argument that is not known",
                    Check.of("m(a)=g(a,f());g(a,b)=a;f()=make(1,c)[0];c(i,s)=s[0];").run(0, 0, 9, order), 0);
            Check.equal("a let that is not known",
                    Check.of("m(a)=let b=f() in a;f()=make(1,c)[0];c(i,s)=s[0];").run(0, 0, 9, order), 0);
            Check.equal("an array is known before its cells",
                    Check.of("m(a)=make(1,c,f());f()=make(1,d)[0];c(i,s,k)=k;d(i,s)=s[0];").run(0, 0, 9, order), 0);
        }
    }

    private static void tellsTooManyCalls() {
        for (int order = 0; order < 5; order++) {
            TokenFrames x = Check.of("m(a)=if a then m(a-1)else 7;");
            Check.equal("299 calls below", x.run(299, 0, 300, order), 0);
            Check.equal("value", x.value(), 7);
            Check.equal("300 calls below", x.run(300, 0, 300, order), 2);
            Check.equal("value", x.value(), 0);
            Check.equal("4 calls of 4", x.run(3, 0, 4, order), 0);
            Check.equal("4 calls of 3", x.run(3, 0, 3, order), 2);
            Check.equal("1 call of 1", x.run(0, 0, 1, order), 0);
            TokenFrames y = Check.of("m(a)=make(a,c);c(i,s)=i;");
            Check.equal("40 cells in 41", y.run(99, 0, 41, order), 0);
            Check.equal("40 cells in 40", y.run(99, 0, 40, order), 2);
            Check.equal("1 cell in 1", y.run(1, 0, 1, order), 2);
            Check.equal("0 cells in 1", y.run(0, 0, 1, order), 0);
            // Also calls that nobody asks for count, though the value is known.
            Check.equal("calls without end", Check.of("m(a)=f(a,g());f(a,b)=a;g()=g();").run(1, 0, 300, order), 2);
            Check.equal("calls without end", Check.of("m(a)=let b=g()in a;g()=g()+g();").run(1, 0, 300, order), 2);
            // A definition is reached whether its arguments are known or not.
            Check.equal("an argument that calls itself", Check.of("m(a)=m(m(a));").run(1, 0, 300, order), 2);
        }
    }

    private static void givesTheSameInEveryOrder() {
        TokenFrames x = Check.of("m(a,b)=let t=make(a,c,b)in t[a-1]+f(t[b]);f(n)=if n<2 then n else f(n/2)+f(n/3);"
                + "c(i,s,b)=if i<b then i*i else s[i-1]+s[i-b];");
        x.run(17, 3, 300, 0);
        int[] due = {x.value(), x.count(0), x.count(1), x.count(2), x.count(3)};
        for (int order : new int[] {1, 2, 3, -1, 99, Integer.MIN_VALUE, Integer.MAX_VALUE}) {
            Check.equal("outcome in order " + order, x.run(17, 3, 300, order), 0);
            Check.equal("value in order " + order, x.value(), due[0]);
            Check.counts(x, "in order " + order, due[1], due[2], due[3], due[4]);
        }
    }

    /** 300 calls of 60 parts each. */
    private static void runsTheLargest() {
        TokenFrames x = Check.of("m(a)=if a then m(a-1)" + Check.many(26, "+1") + " else 0;");
        Check.equal("parts", x.definition(0, 1), 59);
        for (int order = 0; order < 4; order++) {
            Check.equal("run", x.run(299, 0, 300, order), 0);
            Check.equal("value", x.value(), 299 * 26);
            Check.equal("known parts", x.count(1), 299 * 58 + 3);
        }
        TokenFrames y = Check.of("m(a)=" + Check.many(7, "make(40,c)+") + "0;c(i,s)=s[40]" + Check.many(28, "+i") + ";");
        for (int order = 0; order < 4; order++) {
            Check.equal("run", y.run(0, 0, 281, order), 0);
            Check.equal("value", y.value(), 280);
            Check.counts(y, "of 280 cells", 281, 22 + 280 * 59, 280, 280);
        }
    }
}
