/** Promise 3: read, with what is a text and where its fault is. */
public final class ReadTest {
    public static void main(String[] args) {
        takesTexts();
        tellsTokensThatAreNone();
        tellsTokensThatCannotStandThere();
        tellsEnds();
        tellsNames();
        tellsLimits();
        tellsSixtyFirstPart();
        tellsCalls();
        takesTheDeepest();
        keepsDefinitionsBefore();
        Check.end();
    }

    private static void takesTexts() {
        Check.reads("m()=1;", 1);
        Check.reads(" \t\n\rm\n(\ta , b\r) = a\n+ b ; ", 1);
        Check.reads("m(a)=f (a);f(a)=a;g()=f(m(1));", 3);
        Check.reads("abcdefgh(ijklmnop)=ijklmnop;", 1);
        Check.reads("m()=2147483647+0000000000002147483647+0;", 1);
        Check.reads("m(a)=if a then if a then 1 else 2 else if a then 3 else 4<5;", 1);
        Check.reads("m(a)=let a=let a=a in a in(let a=a in a)[if a then 1 else 2];", 1);
        Check.reads("m(a)=m(let b=a in b)+make(if a then 1 else 2,c)[a][a]-(a)[1]*7[2][3];c(i,s)=1;", 2);
        Check.reads("m(a)=--a-- -a*-a[1]=-(a<1);", 1);
        Check.reads("m(a)=let b=a=a in b=b;", 1);
        Check.reads("m(m)=m(m);", 1);
        Check.reads("m()=make(m(),c,1,2,3,4);c(a,b,c,d,e,f)=c(1,2,3,4,5,6);", 2);
        Check.reads("ifs(thens,elses,lets,ins,makes,i)=thens+elses+lets+ins+makes+i;", 1);
        Check.faultAt(10, "a(m)=if m<0then 1 else 2;");
        Check.reads("a(m)=if(m<0)then(1)else(2);", 1);
    }

    private static void tellsTokensThatAreNone() {
        Check.faultAt(4, "m()=abcdefghi;");
        Check.faultAt(4, "m()=2147483648;");
        Check.faultAt(4, "m()=99999999999999999999999999999999999999999999;");
        Check.faultAt(4, "m()=18446744073709551617;");
        Check.faultAt(4, "m()=4294967297;");
        Check.faultAt(4, "m()=a1;");
        Check.faultAt(4, "m()=1a;");
        Check.faultAt(5, "m()=-a1;");
        Check.faultAt(5, "m()=(1a);");
        Check.faultAt(6, "m()=1+99999999999;");
        Check.faultAt(0, "m1()=1;");
        Check.faultAt(0, "abcdefghi()=1;");
        Check.faultAt(2, "m(abcdefghi)=1;");
        Check.faultAt(4, "m()=A;");
        Check.faultAt(5, "m()=1_;");
        Check.faultAt(5, "m()=1\u000b;");
        Check.faultAt(5, "m()=1\u000c;");
        Check.faultAt(5, "m()=1\u0000;");
        for (int code = 0; code < 256; code++) {
            boolean mayStand = "\t\n\r 0123456789,;[+-*/%<=>".indexOf(code) >= 0;
            TokenFrames x = new TokenFrames();
            int answer = Check.read(x, "m()=1" + (char) code);
            boolean isRow = code >= 'a' && code <= 'z';
            int place = mayStand && code != ',' ? 6 : isRow ? 4 : 5;
            Check.equal("read with the byte " + code, answer, code == ';' ? 1 : -1 - place);
        }
    }

    private static void tellsTokensThatCannotStandThere() {
        Check.faultAt(0, "=m()=1;");
        Check.faultAt(0, "if()=1;");
        Check.faultAt(0, "1()=1;");
        Check.faultAt(1, "m=1;");
        Check.faultAt(2, "m(,)=1;");
        Check.faultAt(2, "m(if)=1;");
        Check.faultAt(4, "m(a,)=1;");
        Check.faultAt(4, "m(a b)=1;");
        Check.faultAt(3, "m()1;");
        Check.faultAt(4, "m()=;");
        Check.faultAt(4, "m()=*1;");
        Check.faultAt(6, "m()=1+;");
        Check.faultAt(6, "m()=1+if 1 then 2 else 3;");
        Check.faultAt(6, "m()=1*let a=1 in a;");
        Check.faultAt(6, "m()=1<if 1 then 2 else 3;");
        Check.faultAt(5, "m()=-if 1 then 2 else 3;");
        Check.faultAt(5, "m()=-let a=1 in a;");
        Check.faultAt(7, "m()=1<2<3;");
        Check.faultAt(11, "m()=1<2+3*4=3;");
        Check.faultAt(9, "m()=1=2-3>4;");
        Check.faultAt(6, "m()=1<=2;");
        Check.faultAt(6, "m()=1 2;");
        Check.faultAt(7, "m(a)=a b;");
        Check.faultAt(5, "m()=1)+2;");
        Check.faultAt(6, "m()=(1;");
        Check.faultAt(5, "m()=();");
        Check.faultAt(6, "m()=(1,2);");
        Check.faultAt(6, "m()=m(,);");
        Check.faultAt(8, "m()=m(1,);");
        Check.faultAt(7, "m()=m(1;");
        Check.faultAt(7, "m()=m(1];");
        Check.faultAt(6, "m(a)=a];");
        Check.faultAt(7, "m(a)=a[];");
        Check.faultAt(8, "m(a)=a[1);");
        Check.faultAt(8, "m(a)=a[1,2];");
        Check.faultAt(10, "m(a)=if a else 1;");
        Check.faultAt(17, "m(a)=if a then 1 in 2;");
        Check.faultAt(16, "m(a)=if a then 1;");
        Check.faultAt(17, "m(a)=if a then 1 then 2 else 3;");
        Check.faultAt(24, "m(a)=if a then 1 else 2 else 3;");
        Check.faultAt(10, "m(a)=(if a)then 1 else 2;");
        Check.faultAt(9, "m(a)=let 1=2 in 3;");
        Check.faultAt(9, "m(a)=let if=1 in 2;");
        Check.faultAt(11, "m(a)=let b 1 in 2;");
        Check.faultAt(12, "m(a)=let b=1;");
        Check.faultAt(13, "m(a)=let b=a then 1;");
        Check.faultAt(18, "m(a)=let b=1 in b in 2;");
        Check.faultAt(9, "m()=make 1;");
        Check.faultAt(8, "m()=make;");
        Check.faultAt(9, "m()=make();");
        Check.faultAt(10, "m()=make(1);");
        Check.faultAt(11, "m()=make(1,2);");
        Check.faultAt(11, "m()=make(1,if);");
        Check.faultAt(12, "m()=make(1,f(1));f(i,s)=1;");
        Check.faultAt(12, "m()=make(1,f+1);f(i,s)=1;");
        Check.faultAt(13, "m()=make(1,f,);f(i,s)=1;");
        Check.faultAt(14, "m()=make(1,f,2;f(i,s)=1;");
        Check.faultAt(6, "m()=1;;");
        Check.faultAt(7, "m()=1; 2()=1;");
        Check.faultAt(4, "m()=then;");
    }

    private static void tellsEnds() {
        Check.faultAt(0, "");
        Check.faultAt(3, " \n ");
        String whole = "m(a,b)=if a<b then let c=make(a,d,b)in-(c[a])else m(a,b);";
        for (int n = 0; n < whole.length(); n++) {
            String start = whole.substring(0, n);
            int answer = Check.read(new TokenFrames(), start + "  ");
            // A name that ends early may be none, everything else lacks what comes.
            boolean endsInRow = n > 7 && Character.isLetter(whole.charAt(n - 1))
                    && Character.isLetter(whole.charAt(n));
            if (!endsInRow && !start.endsWith("m")) {
                Check.equal("read of " + start, answer, -1 - (n + 2));
            }
        }
        Check.faultAt(8, "m()=1   ");
        Check.reads("m()=1;   ", 1);
        Check.faultAt(4, "m()=q");
        // What an earlier text left behind the end does not count.
        TokenFrames x = new TokenFrames();
        Check.equal("a call of none", Check.read(x, "m()=q();"), -5);
        Check.equal("a name of none, shorter", Check.read(x, "m()=q"), -5);
        Check.equal("no end, shorter", Check.read(x, "m()=1"), -6);
    }

    private static void tellsNames() {
        Check.faultAt(4, "m()=a;");
        Check.faultAt(4, "m()=m;");
        Check.faultAt(13, "f(a)=a;m()=1+a;");
        Check.faultAt(11, "m(a)=let b=b in b;");
        Check.faultAt(22, "m(a)=(let b=a in b)+1+b;");
        Check.faultAt(18, "m(a)=m(let b=a in c);");
        Check.faultAt(28, "m(a)=let b=(let c=a in c)in c;");
        Check.faultAt(6, "m()=1;m()=2;");
        Check.faultAt(12, "m()=1;a()=1;a()=1;");
        Check.faultAt(4, "m(a,a)=1;");
        Check.faultAt(8, "m(a,b,c,b)=1;");
        Check.faultAt(4, "m()=a!");
        Check.faultAt(5, "m(a)=b c;");
    }

    private static void tellsLimits() {
        StringBuilder twelve = new StringBuilder();
        for (char c = 'a'; c < 'm'; c++) {
            twelve.append(c).append("()=1;");
        }
        Check.reads(twelve.toString(), 12);
        Check.faultAt(72, twelve + "m()=1;");
        Check.faultAt(73, twelve + " m");
        Check.faultAt(72, twelve + ";");
        Check.reads("m(a,b,c,d,e,f)=1;", 1);
        Check.faultAt(14, "m(a,b,c,d,e,f,g)=1;");
        Check.faultAt(14, "m(a,b,c,d,e,f,1)=1;");

        Check.reads("m()=" + Check.many(20, "(") + "1" + Check.many(20, ")") + ";", 1);
        Check.faultAt(24, "m()=" + Check.many(21, "(") + "1" + Check.many(21, ")") + ";");
        Check.reads("m()=" + Check.many(20, "(") + "1" + Check.many(20, ")")
                + "+" + Check.many(20, "(") + "1" + Check.many(20, ")") + ";", 1);
        Check.reads("m()=" + Check.many(25, "(1)+") + "1;", 1);
        // Those of calls, makes and fetches are no ( e ), but what is in them is in others.
        Check.reads("m(a)=" + Check.many(25, "m(") + "1" + Check.many(25, ")") + ";", 1);
        Check.reads("m(a)=" + Check.many(20, "(m(") + "1" + Check.many(20, "))") + ";", 1);
        Check.faultAt(5 + 60, "m(a)=" + Check.many(20, "(m(") + "(1)" + Check.many(20, "))") + ";");
        Check.reads("m(a)=" + Check.many(20, "(a[") + "1" + Check.many(20, "])") + ";", 1);
        Check.faultAt(5 + 60, "m(a)=" + Check.many(20, "(a[") + "(1)" + Check.many(20, "])") + ";");
        Check.reads("m(a)=" + Check.many(20, "(-") + "a" + Check.many(20, ")") + "[(((a)))];", 1);
        Check.reads("m(a)=" + Check.many(19, "(") + "(a)[(a)]+(a)*(a)" + Check.many(19, ")") + ";", 1);
    }

    private static void tellsSixtyFirstPart() {
        String ones = "m(a)=" + Check.many(30, "1+");
        Check.faultAt(ones.length(), ones + "1;");
        Check.faultAt(ones.length() + 1, ones + "(1);");
        String sixty = "m(a)=-" + Check.many(29, "1+") + "a";
        int behind = sixty.length();
        Check.equal("parts", partsOf(sixty + ";"), 60);
        Check.faultAt(behind, sixty + "+1;");
        Check.faultAt(behind, sixty + "<1;");
        Check.faultAt(behind, sixty + "[1];");
        Check.faultAt(behind + 1, sixty + ";!");
        String lacksOne = "m(a)=" + Check.many(59, "-");
        Check.equal("parts", partsOf(lacksOne + "1;"), 60);
        Check.equal("parts", partsOf(lacksOne + "a;"), 60);
        Check.equal("parts", partsOf(lacksOne + "((a));"), 60);
        Check.faultAt(lacksOne.length() + 1, lacksOne + "-1;");
        Check.faultAt(lacksOne.length() + 1, lacksOne + "-m(1);");
        Check.faultAt(lacksOne.length() + 2, lacksOne + "m(1);");
        Check.faultAt(lacksOne.length() + 2, lacksOne + "m(a);");
        Check.faultAt(lacksOne.length() + 3, lacksOne + "m((make(1,m)));");
        Check.faultAt(lacksOne.length() + 2, lacksOne + "m(if 1 then 2 else 3);");
        Check.faultAt(lacksOne.length() + 2, lacksOne + "m(let a=1 in a);");
        Check.faultAt(lacksOne.length() + 5, lacksOne + "make(1,m);");
        Check.equal("parts", partsOf("m()=" + Check.many(59, "-") + "m();"), 60);
        // Each kind is one part, and what stands in it is counted by itself.
        Check.equal("if", partsOf("m(a)=if a then 1 else 2;"), 4);
        Check.equal("let", partsOf("m(a)=let b=1 in b;"), 3);
        Check.equal("comparisons", partsOf("m(a)=(1<2)=(3>4);"), 7);
        Check.equal("signs", partsOf("m(a)=-1+2-3*4/5%6;"), 12);
        Check.equal("call", partsOf("m(a)=m(1);"), 2);
        Check.equal("make", partsOf("m(a,b,c)=make(1,m,2);"), 3);
        Check.equal("fetch", partsOf("m(a)=a[1][2];"), 5);
    }

    /** As much as can be open at once, also behind faults that left much open. */
    private static void takesTheDeepest() {
        String deep = "m()=" + Check.many(20, "(") + Check.many(59, "-") + "1";
        TokenFrames x = new TokenFrames();
        for (int i = 0; i < 20; i++) {
            Check.equal("the deepest without an end", Check.read(x, deep), -1 - deep.length());
        }
        Check.equal("the deepest", Check.read(x, deep + Check.many(20, ")") + ";"), 1);
        Check.equal("run", x.run(0, 0, 1, 0), 0);
        Check.equal("value", x.value(), -1);
        String calls = "m(a)=" + Check.many(20, "(m(") + Check.many(39, "m(");
        Check.reads(calls + "1" + Check.many(39, ")") + Check.many(20, "))") + ";", 1);
        StringBuilder twelve = new StringBuilder();
        for (char c = 'a'; c < 'm'; c++) {
            twelve.append(c).append("()=").append(Check.many(59, "-")).append("1;");
        }
        Check.reads(twelve.toString(), 12);
        String without = twelve.substring(0, twelve.length() - 2);
        Check.faultAt(without.length() + 1, without + "--1;");
        Check.faultAt(without.length() + 1, without + "1+1;");
    }

    private static int partsOf(String text) {
        TokenFrames x = new TokenFrames();
        return Check.read(x, text) < 0 ? 0 : x.definition(0, 1);
    }

    private static void tellsCalls() {
        Check.faultAt(4, "m()=f();");
        Check.faultAt(4, "m()=f();f(a)=1;");
        Check.faultAt(4, "m()=f(1,2);f(a)=1;");
        Check.faultAt(4, "m()=m(1,2,3,4,5,6,7);");
        Check.faultAt(10, "m(a)=m(a)+m();");
        Check.faultAt(11, "m()=make(1,f);f(a)=1;");
        Check.faultAt(11, "m()=make(1,f);f(a,b,c)=1;");
        Check.faultAt(11, "m()=make(1,f,2);f(a,b)=1;");
        Check.faultAt(11, "m()=make(1,f,1,2,3,4,5);f(a,b,c,d,e,g)=1;");
        Check.faultAt(11, "m()=make(1,m);");
        // The first name on the tape counts, also before that of a MAKE around it.
        Check.faultAt(9, "m()=make(f(1),g);");
        Check.faultAt(14, "m()=make(make(k(),f),g);");
        Check.faultAt(13, "m()=make(m(),f);");
        Check.faultAt(15, "m()=make(1+m(),f,g());");
        Check.faultAt(4, "m()=g(h());");
        // Any other fault is told first, wherever it stands.
        Check.faultAt(10, "m()=f()+1+");
        Check.faultAt(13, "m()=f();g()= q;");
        Check.faultAt(8, "m()=f();m()=1;");
    }

    private static void keepsDefinitionsBefore() {
        TokenFrames x = Check.of("m(a)=f(a)+1;f(b)=b*2;");
        for (String wrong : new String[] {"", "x()=1;y()=!", "x()=y();", "m(a,b)=a+b;f()=1+1+1;g()=1;1"}) {
            Check.equal("fault in " + wrong, Check.read(x, wrong) < 0 ? 1 : 0, 1);
            Check.equal("definitions behind it", x.count(4), 2);
            Check.equal("bytes behind it", x.count(5), 0);
            Check.equal("arguments behind it", x.definition(0, 0), 1);
            Check.equal("parts behind it", x.definition(0, 1), 4);
            Check.equal("run behind it", x.run(20, 0, 9, 0), 0);
            Check.equal("value behind it", x.value(), 41);
        }
        Check.equal("a new text", Check.read(x, "g()=5;"), 1);
        Check.equal("definitions", x.count(4), 1);
        Check.equal("another one", Check.read(x, "g()=5;f(a,b)=g();"), 2);
        Check.equal("arguments", x.definition(1, 0), 2);
        Check.equal("read again", x.read(), -1);
        Check.equal("definitions", x.count(4), 2);
    }
}
