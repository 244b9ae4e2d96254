/** The document's sentences on texts, their limits and the places of their faults, each with its edges. */
public final class TextEdgesTest {
    // A text in which every name alone is one wherever it is cut off, with a blank between its tokens.
    private static final String EVERYTHING = "m ( a , m , d ) = if a < m then let c = make ( a , d , m ) in "
            + "- ( c [ a ] [ 7 ] ) else m ( a , ( m ) , 1 ) * a / a % a + a - a = a > ; d ( i , s , k ) = i ;";

    public static void main(String[] args) {
        aTextHasOneToTwelveDefinitions();
        anEmptyTapeIsNoText();
        aDefinitionIsDefinedOnce();
        aHeadHasItsForm();
        aDefinitionHasUpToSixArguments();
        anArgumentIsToldOnce();
        ifAndLetHaveTheirForm();
        aSumHasItsForm();
        aFactorHasItsForm();
        onlyOneComparison();
        ifAndLetAreNoOperands();
        aFetchStandsBehindAFactor();
        upToTwentyParentheses();
        parenthesesThatAreNotCounted();
        aNameAloneIsOfALetOrAnArgument();
        upToSixtyParts();
        eachIsOnePart();
        theSixtyFirstPart();
        theEndIsTheTapesLength();
        aCallNamesADefinition();
        aMakeNamesADefinition();
        theFirstFaultCounts();
        otherFaultsComeBeforeCalls();
        theFirstOfSeveralCalls();
        Check.end();
    }

    /** Definitions a(), b() and so on, with that expression each. */
    private static String definitions(int many, String expression) {
        StringBuilder text = new StringBuilder();
        for (int i = 0; i < many; i++) {
            text.append((char) ('a' + i)).append("()=").append(expression).append(';');
        }
        return text.toString();
    }

    private static void aTextHasOneToTwelveDefinitions() {
        Check.sentence("A TEXT are DEFINITIONS (1 to 12)");
        for (int many = 1; many <= 12; many++) {
            Check.reads(definitions(many, "1"), many);
            Check.reads(definitions(many, "1") + " \n", many);
        }
        Check.sentence("the name of the 13th definition");
        Check.faultAt(72, definitions(13, "1"));
        Check.faultAt(72, definitions(26, "1"));
        Check.fault(definitions(12, "1") + " ^m");
        Check.fault(definitions(12, "1") + "^a()=1;");
        Check.fault(definitions(12, "1") + "^;");
        Check.fault(definitions(12, "1") + "^abcdefghi()=1;");
        Check.fault(definitions(11, "1") + "m()=^;m()=1;n()=1;");
    }

    private static void anEmptyTapeIsNoText() {
        Check.sentence("FAULTS, at the first byte of a token (or the end, the tape's length)");
        Check.faultAt(0, "");
        Check.faultAt(1, " ");
        Check.faultAt(4, "\t\n\r ");
        Check.faultAt(1500, Check.many(1500, " "));
        Check.faultAt(0, ";");
    }

    private static void aDefinitionIsDefinedOnce() {
        Check.sentence("of one that was defined before");
        Check.fault("m()=1;^m()=2;");
        Check.fault("m()=1;f()=1;^m(a)=2;");
        Check.fault("m()=1;f()=1;^f(a)=2;");
        Check.fault(definitions(11, "1") + "^k()=2;");
        Check.fault(definitions(11, "1") + "^a");
        Check.reads("m()=1;f(m)=m;g(f)=let m=f in m;", 3);
    }

    private static void aHeadHasItsForm() {
        Check.sentence("name ( names with , between, or none ) = expression ;");
        Check.reads("m()=1;", 1);
        Check.fault("^()=1;");
        Check.fault("^1()=1;");
        Check.fault("m^=1;");
        Check.fault("m^)=1;");
        Check.fault("m(^=1;");
        Check.fault("m(^,a)=1;");
        Check.fault("m(^1)=1;");
        Check.fault("m(^()=1;");
        Check.fault("m(a ^=1;");
        Check.fault("m(a ^b)=1;");
        Check.fault("m(a^;b)=1;");
        Check.fault("m(a,^)=1;");
        Check.fault("m(a,^,b)=1;");
        Check.fault("m(a,^1)=1;");
        Check.fault("m()^1;");
        Check.fault("m()^;");
        Check.fault("m()=^;");
        Check.fault("m()=^=1;");
        Check.fault("m()=1^)");
        Check.fault("m()=1^,");
        Check.fault("m()=1;^;");
        Check.fault("m()=1 ^f()=2;");
    }

    private static void aDefinitionHasUpToSixArguments() {
        Check.sentence("A definition has at most 6 arguments");
        String names = "";
        for (int many = 0; many <= 6; many++) {
            Check.defines("m(" + names + ")=1;", many, 1);
            names = names + (many == 0 ? "" : ",") + (char) ('a' + many);
        }
        Check.sentence("of a 7th argument");
        Check.fault("m(a,b,c,d,e,f,^g)=1;");
        Check.fault("m(a,b,c,d,e,f,^a)=1;");
        Check.fault("m(a,b,c,d,e,f,^g,h)=1;");
        Check.fault("m(a,b,c,d,e,f,^g");
        Check.fault("m(a,b,c,d,e,f,^)=1;");
        Check.fault("m(a,b,c,d,e,f ^g)=1;");
        Check.fault("z(a,b,c,d,e,f)=1;m(a,b,c,d,e,f,^g)=1;");
        Check.reads("m(a,b,c,d,e,f)=1;z(a,b,c,d,e,f)=1;", 2);
    }

    private static void anArgumentIsToldOnce() {
        Check.sentence("of an argument told before");
        Check.fault("m(a,^a)=1;");
        Check.fault("m(a,b,^a)=1;");
        Check.fault("m(a,b,^b)=1;");
        Check.fault("m(a,b,c,d,e,^a)=1;");
        Check.fault("m(a,b,c,d,e,^e)=1;");
        Check.fault("f(a)=1;m(b,a,^a)=1;");
        Check.reads("m(m,f)=1;f(a,m)=1;g(a,m)=1;", 3);
    }

    private static void ifAndLetHaveTheirForm() {
        Check.sentence("An EXPRESSION: if e then e else e; let name = e in e");
        Check.fault("m(a)=if^;");
        Check.fault("m(a)=if ^then 1 else 2;");
        Check.fault("m(a)=if a ^else 1 then 2;");
        Check.fault("m(a)=if a^;");
        Check.fault("m(a)=if a^,a then 1 else 2;");
        Check.fault("m(a)=if a then^;");
        Check.fault("m(a)=if a then ^else 2;");
        Check.fault("m(a)=if a then 1^;");
        Check.fault("m(a)=if a then 1 ^in 2;");
        Check.fault("m(a)=if a then 1 ^then 2 else 3;");
        Check.fault("m(a)=if a then 1 else^;");
        Check.fault("m(a)=if a then 1 else 2 ^else 3;");
        Check.fault("m(a)=(if a then 1^)else 2;");
        Check.fault("m(a)=m(if a then 1^,2);");
        Check.fault("m(a)=let^=1 in 2;");
        Check.fault("m(a)=let ^1=1 in 2;");
        Check.fault("m(a)=let b^(1)in 2;");
        Check.fault("m(a)=let b^<1 in 2;");
        Check.fault("m(a)=let b=^in 2;");
        Check.fault("m(a)=let b=1^,c=2 in b;");
        Check.fault("m(a)=let b=1 ^then b;");
        Check.fault("m(a)=let b=1^;");
        Check.fault("m(a)=let b=1 in^;");
        Check.fault("m(a)=let b=1 in b ^in 2;");
        Check.fault("m(a)=(let b=1^)in b;");
        for (String word : new String[] {"if", "then", "else", "let", "in", "make"}) {
            if (!word.equals("then")) {
                Check.fault("m(a)=if a ^" + word + " 1 else 2;");
            }
            if (!word.equals("else")) {
                Check.fault("m(a)=if a then 1 ^" + word + " 2;");
            }
            if (!word.equals("in")) {
                Check.fault("m(a)=let b=1 ^" + word + " b;");
            }
        }
        for (String word : new String[] {"then", "else", "in"}) {
            // Outside of an if and a let it stands nowhere, whatever else is open.
            for (String open : new String[] {"", "(", "m(", "m(a,", "a[", "make(", "make(a,m,", "(if a then 1 else 2+", "-"}) {
                Check.fault("m(a)=" + open + "a ^" + word + " a;");
            }
            Check.fault("m(a)=^" + word + " a then 1 else 2;");
            Check.fault("m(a)=^" + word + " b=1 in b;");
            Check.fault("m(a)=m(^" + word + "(1,m));");
        }
        // An else and an in belong to the innermost if and let that lack one.
        Check.works("m(a,b)=if a then if b then 1 else 2 else 3;", 1, 0, 2);
        Check.works("m(a,b)=if a then 1 else if b then 2 else 3;", 0, 0, 3);
        Check.works("m(a,b)=let x=let y=a in y*2 in x+b;", 3, 1, 7);
    }

    private static void aSumHasItsForm() {
        Check.sentence("A SUM are TERMS with + or - between, a TERM are FACTORS with *, / or % between");
        for (String sign : new String[] {"+", "*", "/", "%", "<", "=", ">"}) {
            Check.fault("m(a)=^" + sign + "a;");
            Check.fault("m(a)=a" + sign + "^;");
            Check.fault("m(a)=a" + sign + "^)");
            Check.fault("m(a)=a" + sign + "^+a;");
            Check.fault("m(a)=(^" + sign + "a);");
            Check.fault("m(a)=-^" + sign + "a;");
            Check.reads("m(a)=a" + sign + "-a;", 1);
        }
        Check.fault("m(a)=a-^;");
        Check.fault("m(a)=-^;");
        Check.fault("m(a)=a ^1;");
        Check.fault("m(a)=a ^a;");
        Check.fault("m(a)=1 ^(2);");
        Check.fault("m(a)=(1)^(2);");
        Check.fault("m(a)=(1)^a;");
        Check.fault("m(a)=a ^if a then 1 else 2;");
        Check.fault("m(a)=a ^make(a,m);");
    }

    private static void aFactorHasItsForm() {
        Check.sentence("A FACTOR: - FACTOR; a number; a name; name ( expressions with , between, or none ), a CALL; "
                + "make ( e , name ) or make ( e , name , expressions with , between ), a MAKE; ( e )");
        for (String factor : new String[] {"-a", "--a", "1", "a", "n()", "m(a)", "d(a<a,if a then 1 else 2)", "make(a,d)",
            "make(let b=a in b,e,a=a)", "make(a,f,1,2)", "(a)", "(if a then 1 else 2)", "(a<a)"}) {
            Check.reads("m(a)=" + factor + "*" + factor + "-" + factor
                    + ";n()=1;d(i,s)=1;e(i,s,x)=1;f(i,s,x,y)=1;", 5);
        }
        Check.fault("m(a)=(a^;");
        Check.fault("m(a)=(^);");
        Check.fault("m(a)=(a^,a);");
        Check.fault("m(a)=(a^];");
        Check.fault("m(a)=a^);");
        Check.fault("m(a)=a^];");
        Check.fault("m(a)=m(^,a);");
        Check.fault("m(a)=m(a,^);");
        Check.fault("m(a)=m(a,^,a);");
        Check.fault("m(a)=m(a^;");
        Check.fault("m(a)=m(a^];");
        Check.fault("m(a)=m(a ^a);");
        Check.fault("m(a)=make^;");
        Check.fault("m(a)=make ^a;");
        Check.fault("m(a)=make^[a];");
        Check.fault("m(a)=make(^);");
        Check.fault("m(a)=make(^,m);");
        Check.fault("m(a)=make(a^);");
        Check.fault("m(a)=make(a^;m);");
        Check.fault("m(a)=make(a,^);");
        Check.fault("m(a)=make(a,^1);");
        Check.fault("m(a)=make(a,^(m));");
        Check.fault("m(a)=make(a,m^(a));");
        Check.fault("m(a)=make(a,m^+a);");
        Check.fault("m(a)=make(a,m^[a]);");
        Check.fault("m(a)=make(a,m^;");
        Check.fault("m(a)=make(a,m,^);");
        Check.fault("m(a)=make(a,m,a^;");
        Check.fault("m(a)=make(a,m,a^];");
    }

    private static void onlyOneComparison() {
        Check.sentence("a SUM, perhaps compared with another one: SUM < SUM, SUM = SUM, SUM > SUM.");
        for (String first : new String[] {"<", "=", ">"}) {
            Check.reads("m(a)=a*a+a" + first + "a-a;", 1);
            for (String second : new String[] {"<", "=", ">"}) {
                Check.fault("m(a)=a" + first + "a^" + second + "a;");
                Check.fault("m(a)=a" + first + "-a*a+a^" + second + "a;");
                Check.reads("m(a)=(a" + first + "a)" + second + "(a" + first + "a);", 1);
                Check.reads("m(a)=if a" + first + "a then a" + second + "a else a" + first + "a;", 1);
                Check.reads("m(a)=let b=a" + first + "a in a" + second + "b;", 1);
                Check.reads("m(a)=a[a" + first + "a]" + second + "m(a" + first + "a);", 1);
            }
        }
    }

    private static void ifAndLetAreNoOperands() {
        Check.sentence("A SUM are TERMS with + or - between, a TERM are FACTORS with *, / or % between");
        for (String sign : new String[] {"+", "-", "*", "/", "%", "<", "=", ">"}) {
            Check.fault("m(a)=a" + sign + "^if a then 1 else 2;");
            Check.fault("m(a)=a" + sign + "^let b=a in b;");
            Check.fault("m(a)=a" + sign + "-^if a then 1 else 2;");
            Check.reads("m(a)=a" + sign + "(if a then 1 else 2);", 1);
            Check.reads("m(a)=if a then 1 else 2" + sign + "3;", 1);
            Check.reads("m(a)=let b=a in b" + sign + "3;", 1);
        }
        Check.fault("m(a)=-^if a then 1 else 2;");
        Check.fault("m(a)=-^let b=a in b;");
        Check.reads("m(a)=if if a then 1 else 2 then let b=1 in b else if let b=1 in b then 1 else 2;", 1);
        Check.reads("m(a)=m(if a then 1 else 2)+m(let b=a in b)+a[if a then 1 else 2]+a[let b=a in b];", 1);
        Check.reads("d(i,s,k)=make(if i then 1 else 2,d,let b=i in b)+make(let b=i in b,d,if i then 1 else 2);", 1);
    }

    private static void aFetchStandsBehindAFactor() {
        Check.sentence("each but - FACTOR perhaps with [ e ] behind, once or more, a FETCH");
        for (String factor : new String[] {"1", "a", "d(a,a)", "make(a,d)", "(a)", "(-a)"}) {
            Check.reads("m(a)=" + factor + "[a];d(i,s)=1;", 2);
            Check.reads("m(a)=" + factor + "[a][1][a[2]];d(i,s)=1;", 2);
            Check.reads("m(a)=-" + factor + "[a]*" + factor + "[a];d(i,s)=1;", 2);
        }
        Check.fault("m(a)=^[a];");
        Check.fault("m(a)=a[^];");
        Check.fault("m(a)=a[a^;");
        Check.fault("m(a)=a[a^);");
        Check.fault("m(a)=a[a^,a];");
        Check.fault("m(a)=a[a]^a;");
        Check.fault("m(a)=a[a]^];");
        // The sign before it is that of the cell, not of the array.
        Check.works("m(a)=-make(a,d)[2];d(i,s)=i+10;", 3, 0, -12);
        Check.works("m(a)=(-make(a,d))[2];d(i,s)=i+10;", 3, 0, 0);
    }

    private static void upToTwentyParentheses() {
        Check.sentence("( e ), up to 20 of these one in another");
        for (int many = 1; many <= 20; many++) {
            Check.works("m()=" + Check.many(many, "(") + "5" + Check.many(many, ")") + ";", 0, 0, 5);
        }
        Check.sentence("the ( of a 21st ( e ) in others");
        String twenty = "m(a)=" + Check.many(20, "(");
        Check.fault(twenty + "^(1" + Check.many(21, ")") + ";");
        Check.fault(twenty + "^((((((1;");
        Check.fault(twenty + "^(");
        Check.fault(twenty + "-^(1)" + Check.many(20, ")") + ";");
        Check.fault(twenty + "1+^(1)" + Check.many(20, ")") + ";");
        // What stands between them does not matter.
        Check.fault(twenty + "m(^(1))" + Check.many(20, ")") + ";");
        Check.fault(twenty + "a[^(1)]" + Check.many(20, ")") + ";");
        Check.fault(twenty + "make(^(1),d)" + Check.many(20, ")") + ";");
        Check.fault(twenty + "make(1,d,^(1))" + Check.many(20, ")") + ";");
        Check.fault(twenty + "if ^(1)then 2 else 3" + Check.many(20, ")") + ";");
        Check.fault(twenty + "if 1 then 2 else ^(3)" + Check.many(20, ")") + ";");
        Check.fault(twenty + "let b=^(1)in b" + Check.many(20, ")") + ";");
        Check.fault(twenty + "let b=1 in ^(b)" + Check.many(20, ")") + ";");
        Check.fault("m(a)=" + Check.many(20, "(m(") + "^(1)" + Check.many(20, "))") + ";");
        Check.fault("m(a)=" + Check.many(20, "(a[") + "^(1)" + Check.many(20, "])") + ";");
        Check.fault("m(a)=" + Check.many(20, "(-") + "^(1)" + Check.many(20, ")") + ";");
        // Also where as many parts as there may be are begun and not ended.
        Check.fault(twenty + Check.many(60, "-") + "^(1" + Check.many(21, ")") + ";");
        Check.fault(twenty.substring(0, twenty.length() - 1) + Check.many(60, "-") + "(^1" + Check.many(20, ")") + ";");
    }

    private static void parenthesesThatAreNotCounted() {
        Check.sentence("( e ), up to 20 of these one in another");
        String one = Check.many(20, "(") + "1" + Check.many(20, ")");
        Check.reads("m(a)=" + one + "+" + one + "*" + one + "[" + one + "];", 1);
        Check.reads("m(a)=m(" + one + ")+m(" + one + ")<" + one + ";", 1);
        Check.reads("m()=" + one + ";f()=" + one + ";", 2);
        Check.reads("m()=" + Check.many(29, "(1)+") + "(1);", 1);
        Check.reads("m(a)=" + Check.many(19, "(") + "(1)+(2)*(3)[(4)]" + Check.many(19, ")") + ";", 1);
        // Those of a CALL, a MAKE, a head and a FETCH are no ( e ).
        Check.reads("m(a)=" + Check.many(59, "m(") + "1" + Check.many(59, ")") + ";", 1);
        Check.reads("m(a)=" + Check.many(19, "(m(") + "m((1))" + Check.many(19, "))") + ";", 1);
        Check.reads("m(a)=" + Check.many(20, "(") + "m(make(a[1],d))" + Check.many(20, ")") + ";d(i,s)=1;", 2);
        // None are left over from a text with a fault, or from the definition before.
        TokenFrames x = new TokenFrames();
        for (int i = 0; i < 3; i++) {
            Check.equal("read", Check.read(x, "m()=" + Check.many(20, "(") + ";"), -25);
        }
        Check.equal("read", Check.read(x, "m()=" + one + ";"), 1);
    }

    private static void aNameAloneIsOfALetOrAnArgument() {
        Check.sentence("a name alone that is none");
        Check.fault("m()=^a;");
        Check.fault("m(a)=a+^b;");
        Check.fault("m(a)=^m;");
        Check.fault("f(a)=a;m()=^a;");
        Check.fault("m()=^a;f(a)=a;");
        Check.fault("m()=^f;f()=1;");
        Check.fault("m()=^a");
        Check.fault("m()=^a ");
        Check.fault("m()=^a b;");
        Check.fault("m()=^a[1];");
        Check.fault("m()=1+^a)(;");
        Check.sentence("A name alone is that of a let around (in its second expression)");
        Check.fault("m(a)=let b=^b in 1;");
        Check.fault("m(a)=let b=1+(a[^b])in b;");
        Check.fault("m(a)=(let b=1 in b)+^b;");
        Check.fault("m(a)=m(let b=1 in b)+^b;");
        Check.fault("m(a)=a[let b=1 in b][^b];");
        Check.fault("m(a)=if let b=1 in b then ^b else 2;");
        Check.fault("m(a)=let b=let c=1 in c in ^c;");
        Check.fault("m(a)=let b=1 in let c=^c in b;");
        Check.fault("m()=let b=1 in b;f()=^b;");
        Check.reads("m(a)=let b=a in let c=b in b+m(b)+m((c))+a[b][c]-c+(if b then c else b);", 1);
        Check.reads("m(a)=let b=1 in make(b,d,b,c(b))+(let c=b in b);d(i,s,x,y)=1;c(i)=i;", 3);
        Check.sentence("or an argument of the definition");
        Check.works("m(a,b)=a-b;", 7, 2, 5);
        Check.works("m(a)=f(1,2,3,4,5,6)+a;f(a,b,c,d,e,f)=a*b*c*d*e*f;", 7, 0, 727);
        Check.fault("m(a)=f(a)+1;f(b)=^a;");
        Check.fault("m(a)=a;f(b)=b;g()=^b;");
        Check.sentence("the innermost one");
        Check.works("m(a)=let a=a*10 in let a=a+1 in a;", 4, 0, 41);
        Check.works("m(a)=let b=1 in(let b=b+1 in let b=b*10 in b)+b*100+a*1000;", 3, 0, 3120);
        Check.works("m(a,b)=let a=b in let b=7 in a*10+b;", 1, 2, 27);
        Check.works("m(a)=let b=(let a=9 in a)in a*10+b;", 3, 0, 39);
        Check.works("m(a)=if a then let m=5 in m(0)+m else 7;", 1, 0, 12);
    }

    private static void upToSixtyParts() {
        Check.sentence("its expression at most 60 PARTS");
        Check.defines("m(a)=-" + Check.many(29, "1+") + "1;", 1, 60);
        Check.defines("m(a)=" + Check.many(59, "-") + "1;", 1, 60);
        Check.defines("m(a)=" + Check.many(59, "m(") + "a" + Check.many(59, ")") + ";", 1, 60);
        Check.defines("m()=" + Check.many(59, "-") + "m();", 0, 60);
        Check.defines("m(a)=-" + Check.many(28, "1+") + "1[1];", 1, 60);
        Check.reads(definitions(12, Check.many(59, "-") + "1"), 12);
        // As much begun and not ended as can be, the CALL among it.
        String open = Check.many(20, "(") + Check.many(59, "-") + "m(";
        Check.fault("m()=" + open + "^");
        Check.fault("m()=" + open + "^1)" + Check.many(20, ")") + ";");
        Check.defines("m()=" + open + ")" + Check.many(20, ")") + ";", 0, 60);
        Check.faultAt(definitions(11, Check.many(59, "-") + "1").length() + 64,
                definitions(11, Check.many(59, "-") + "1") + "l()=" + Check.many(60, "-") + "1;");
        TokenFrames x = Check.of("m()=1;f()=" + Check.many(59, "-") + "1;");
        Check.equal("parts of the second", x.definition(1, 1), 60);
    }

    private static void eachIsOnePart() {
        Check.sentence("each if, let, comparison, + - * / % (also before a FACTOR), number, name alone, CALL, MAKE, "
                + "FETCH is one");
        Check.defines("m(a)=if 1 then 2 else 3;", 1, 4);
        Check.defines("m(a)=let b=1 in 2;", 1, 3);
        for (String sign : new String[] {"<", "=", ">", "+", "-", "*", "/", "%"}) {
            Check.defines("m(a)=1" + sign + "2;", 1, 3);
        }
        Check.defines("m(a)=-1;", 1, 2);
        Check.defines("m(a)=1--1;", 1, 4);
        Check.defines("m(a)=1;", 1, 1);
        Check.defines("m(a)=a;", 1, 1);
        Check.defines("m(a)=let b=1 in b;", 1, 3);
        Check.defines("m()=m();", 0, 1);
        Check.defines("m(a)=m(1);", 1, 2);
        Check.defines("m(a,b,c,d,e,f)=m(1,2,3,4,5,6);", 6, 7);
        Check.defines("m(a,b)=make(1,m);", 2, 2);
        Check.defines("m(a,b,c,d,e,f)=make(1,m,2,3,4,5);", 6, 6);
        Check.defines("m(a)=1[2];", 1, 3);
        Check.defines("m(a)=1[2][3];", 1, 5);
        // A ( e ) is none, nor are the names in heads, lets, CALLs and MAKEs.
        Check.defines("m(a)=((((1))));", 1, 1);
        Check.defines("m(a)=(((1)+((2))));", 1, 3);
    }

    private static void theSixtyFirstPart() {
        Check.sentence("that with which the 61st part begins (if, let, the sign, [, make, the number, the name)");
        String behindSign = "m(a)=" + Check.many(30, "1+");
        Check.fault(behindSign + "^1;");
        Check.fault(behindSign + "^a;");
        Check.fault(behindSign + "^m(1);");
        Check.fault(behindSign + "^make(1,m);");
        Check.fault(behindSign + "^-1;");
        Check.fault(behindSign + "(^1);");
        Check.fault(behindSign + "(^if 1 then 2 else 3);");
        Check.fault(behindSign + "(^let b=1 in b);");
        Check.fault(behindSign + "(((^-1)));");
        String behindFactor = "m(a)=-" + Check.many(29, "1+") + "a";
        for (String sign : new String[] {"+", "-", "*", "/", "%", "<", "=", ">"}) {
            Check.fault(behindFactor + "^" + sign + "1;");
        }
        Check.fault(behindFactor + "^[1];");
        Check.fault(behindFactor + "^[");
        Check.fault(behindFactor + " ^1;");
        Check.reads(behindFactor + ";", 1);
        // As the 60th each may stand; then what is in it is the 61st.
        String lacksOne = "m(a)=-" + Check.many(29, "1+");
        Check.reads(lacksOne + "1;", 1);
        Check.reads(lacksOne + "a;", 1);
        Check.reads(lacksOne + "f();f()=1;", 2);
        Check.fault(lacksOne + "f(^1);f(a)=1;");
        Check.fault(lacksOne + "make(^1,f);f(a,b)=1;");
        Check.fault(lacksOne + "-^1;");
        Check.fault(lacksOne + "(if ^1 then 2 else 3);");
        Check.fault(lacksOne + "(let b=^1 in b);");
        String lacksOneBehind = "m(a)=" + Check.many(29, "1+") + "a";
        Check.fault(lacksOneBehind + "+^1;");
        Check.fault(lacksOneBehind + "<^1;");
        Check.fault(lacksOneBehind + "[^1];");
        Check.fault(lacksOneBehind + "[(^1)];");
    }

    private static void theEndIsTheTapesLength() {
        Check.sentence("or the end, the tape's length");
        String[] tokens = EVERYTHING.split(" ");
        StringBuilder text = new StringBuilder();
        for (int i = 0; i < tokens.length; i++) {
            // In front of this token; the comparison that follows another one is a fault of its own.
            if (tokens[i].equals(">")) {
                text.append("^> ");
                break;
            }
            boolean isBehindDefinition = text.toString().endsWith("; ");
            if (!isBehindDefinition) {
                Check.faultAt(text.length(), text.toString());
                Check.faultAt(text.length() + 3, text + "\n\t ");
                if (text.length() > 0) {
                    Check.faultAt(text.length() - 1, text.substring(0, text.length() - 1));
                }
            }
            text.append(tokens[i]).append(' ');
        }
        Check.fault(text.toString());
        Check.fault("m()=1;f^");
        Check.fault("m()=1;f(^");
        Check.fault("m()=1;f()^");
        Check.fault("m()=1;f()=^");
        Check.fault("m()=1;f()=1^");
        Check.fault("m()=1;f()=1    ^");
        String full = Check.many(1495, " ") + "m()=";
        Check.faultAt(1499, full);
        Check.faultAt(1500, full + "1");
        Check.faultAt(1499, full + ";");
        Check.reads(Check.many(1494, " ") + "m()=1;", 1);
        // A full tape that ends behind a name.
        Check.faultAt(1499, full + "a");
        Check.faultAt(1500, Check.many(1494, " ") + "m(a)=a");
        Check.faultAt(1500, Check.many(1499, " ") + "m");
        Check.faultAt(1492, Check.many(1488, " ") + "m()=abcdefgh");
    }

    private static void aCallNamesADefinition() {
        Check.sentence("A CALL names a definition (also one that comes later) with as many arguments");
        Check.works("m(a)=f(a);f(a)=a+1;", 4, 0, 5);
        Check.works("m(a)=g(a);f(a)=a+1;g(a)=f(a)*2;", 4, 0, 10);
        Check.works("m(a)=if a then m(0)else 7;", 4, 0, 7);
        Check.fault("m()=^f();");
        Check.fault("m(f)=^f(f);");
        Check.fault("m()=let f=1 in ^f(f);");
        StringBuilder given = new StringBuilder();
        String[] names = {"", "a", "a,b", "a,b,c", "a,b,c,d", "a,b,c,d,e", "a,b,c,d,e,g"};
        for (int many = 0; many <= 8; many++) {
            for (int taken = 0; taken <= 6; taken++) {
                String call = "f(" + given + ");f(" + names[taken] + ")=1;";
                if (many == taken) {
                    Check.reads("m()=" + call, 2);
                } else {
                    Check.fault("m()=^" + call);
                }
            }
            given.append(many == 0 ? "1" : ",1");
        }
    }

    private static void aMakeNamesADefinition() {
        Check.sentence("a MAKE one with two more than there are expressions behind its name");
        String[] names = {"", "a", "a,b", "a,b,c", "a,b,c,d", "a,b,c,d,e", "a,b,c,d,e,g"};
        StringBuilder given = new StringBuilder();
        for (int many = 0; many <= 6; many++) {
            for (int taken = 0; taken <= 6; taken++) {
                String behind = "f" + given + ");f(" + names[taken] + ")=1;";
                if (many + 2 == taken) {
                    Check.reads("m()=make(1," + behind, 2);
                } else {
                    Check.fault("m()=make(1,^" + behind);
                }
            }
            given.append(",1");
        }
        Check.fault("m()=make(1,^f);");
        Check.fault("m(f)=make(f,^f);");
        Check.works("m(a,b)=if b then i(a,b)else make(3,m)[2];i(a,b)=a;", 5, 0, 2);
    }

    private static void theFirstFaultCounts() {
        Check.sentence("the first token that cannot stand there");
        Check.fault("m()=^!;f()=1");
        Check.fault("m()=1+^;f()=!");
        Check.fault("m(a,^a)=b;");
        Check.fault("m()=^b;m()=1;");
        Check.fault("m()=1;^m()=b;");
        Check.fault("m()=(^b+((((((((((((((((((((1;");
        Check.fault("m(a,b,c,d,e,f,^g,g)=1;");
        Check.fault("m()=" + Check.many(20, "(") + "^(b");
        Check.fault("m()=" + Check.many(30, "1+") + "^b");
        Check.fault("m()=1<2^<b;");
    }

    private static void otherFaultsComeBeforeCalls() {
        Check.sentence("When there is none of these: the first name of a CALL, or in a MAKE, of which there is no "
                + "definition with so many arguments.");
        Check.fault("m()=f()+^;");
        Check.fault("m()=f()^");
        Check.fault("m()=f(^b);");
        Check.fault("m()=make(1,f)+^b;");
        Check.fault("m()=f();g()=^b;");
        Check.fault("m()=f();^m()=1;");
        Check.fault("m()=f();g(a,^a)=1;");
        Check.fault("m()=f();^1");
        Check.fault("m()=f();g^");
        Check.fault(definitions(12, "z()") + "^m()=1;");
        Check.fault("m()=f()+" + Check.many(29, "1+") + "^1;");
        Check.fault("m()=f(" + Check.many(20, "(") + "^(1))" + Check.many(20, ")") + ";");
        Check.fault("m(a)=m()+^2147483648;");
    }

    private static void theFirstOfSeveralCalls() {
        Check.sentence("the first name of a CALL, or in a MAKE");
        Check.fault("m()=^f()+g();");
        Check.fault("m()=m()+^f()+g();");
        Check.fault("m()=^f(g());");
        Check.fault("m(a)=m(^g());");
        Check.fault("m()=make(1,^f)+g();");
        Check.fault("m()=^g()+make(1,f);");
        Check.fault("m()=make(1,^f,g());");
        Check.fault("m()=make(^g(),f);");
        Check.fault("m()=make(1+(make(m(),^f)),g);");
        Check.fault("m()=m();k()=^f();l()=g();");
        Check.fault("m()=make(1,d)+^f();d(i,s)=1;");
        Check.fault("m()=if 1 then m()else ^f();g()=h();");
    }
}
