/** The document's sentences on what is worked out, each with its edges. */
public final class WorkEdgesTest {
    private static final int LEAST = Integer.MIN_VALUE;
    private static final int MOST = Integer.MAX_VALUE;

    // n() never becomes known: its one cell waits for itself. It costs 2 calls, 5 known parts and 1 cell.
    private static final String NEVER = "n()=make(1,w)[0];w(i,s)=s[0];";
    private static final String CELL = "c(i,s)=i*i+100;";

    public static void main(String[] args) {
        numbersWrap();
        divisionByZeroIsZero();
        divisionGoesToZero();
        restHasTheSignOfX();
        comparisonsAreOneOrZero();
        ifTakesItsSecond();
        signsGoFromTheLeft();
        anArrayIsANumber();
        aNumberIsAnArrayWithoutCells();
        aDefinitionIsReachedAtOnce();
        whatIsReachedSoAreItsParts();
        ofAnIfOneIsReached();
        aCallIsANewCall();
        aMakeHasUpToFortyCells();
        aMakeIsKnownWithItsFirst();
        aCellIsACall();
        aFetchWaitsForBoth();
        aCellThatIsNotThere();
        aFetchWaitsForTheCell();
        aLetIsItsSecond();
        otherPartsWaitForTheirs();
        upToTwoNumbersAreTold();
        whatNobodyAsksFor();
        outcomeKnown();
        outcomeUnknown();
        outcomeTooManyCalls();
        callsUpToThreeHundred();
        Check.end();
    }

    private static void numbersWrap() {
        Check.sentence("VALUES are numbers (32 bits, wrapping)");
        Check.works("m(a,b)=a+b;", MOST, 1, LEAST);
        Check.works("m(a,b)=a+b;", LEAST, -1, MOST);
        Check.works("m(a,b)=a+b;", LEAST, LEAST, 0);
        Check.works("m(a,b)=a-b;", LEAST, 1, MOST);
        Check.works("m(a,b)=a-b;", MOST, -1, LEAST);
        Check.works("m(a,b)=a-b;", 0, LEAST, LEAST);
        Check.works("m(a,b)=a*b;", 65536, 65536, 0);
        Check.works("m(a,b)=a*b;", 65536, 32768, LEAST);
        Check.works("m(a,b)=a*b;", MOST, MOST, 1);
        Check.works("m(a,b)=a*b;", MOST, 2, -2);
        Check.works("m(a,b)=a*b;", LEAST, -1, LEAST);
        Check.works("m(a,b)=a*b;", LEAST, LEAST, 0);
        Check.works("m(a)=-a;", LEAST, 0, LEAST);
        Check.works("m(a)=-a;", MOST, 0, LEAST + 1);
        Check.works("m(a)=a/-1;", LEAST, 0, LEAST);
        Check.works("m()=2147483647+1;", 0, 0, LEAST);
        Check.works("m(a,b)=a+b-a;", MOST, MOST, MOST);
    }

    private static void divisionByZeroIsZero() {
        Check.sentence("x / 0 and x % 0 are 0");
        for (int x : new int[] {0, 1, -1, 7, -7, MOST, LEAST}) {
            Check.works("m(a,b)=a/b;", x, 0, 0);
            Check.works("m(a,b)=a%b;", x, 0, 0);
        }
        Check.works("m(a)=a/make(0,c)+a%make(0,c);" + CELL, 7, 0, 0);
        Check.works("m(a)=7/0*a+5%0+3;", 7, 0, 3);
    }

    private static void divisionGoesToZero() {
        Check.sentence("others go to 0");
        int[][] rows = {{7, 2, 3}, {-7, 2, -3}, {7, -2, -3}, {-7, -2, 3}, {1, 2, 0}, {-1, 2, 0}, {1, -2, 0}, {-1, -2, 0},
            {0, 5, 0}, {0, -5, 0}, {8, 2, 4}, {-8, 2, -4}, {MOST, -1, -MOST}, {LEAST, 1, LEAST}, {LEAST, 2, -1073741824},
            {LEAST, LEAST, 1}, {MOST, LEAST, 0}, {LEAST, MOST, -1}};
        for (int[] row : rows) {
            Check.works("m(a,b)=a/b;", row[0], row[1], row[2]);
        }
    }

    private static void restHasTheSignOfX() {
        Check.sentence("the rest with the sign of x");
        int[][] rows = {{7, 3, 1}, {-7, 3, -1}, {7, -3, 1}, {-7, -3, -1}, {1, 2, 1}, {-1, 2, -1}, {-1, -2, -1}, {0, 5, 0},
            {6, 3, 0}, {-6, 3, 0}, {-6, -3, 0}, {LEAST, -1, 0}, {LEAST, 10, -8}, {LEAST, -10, -8}, {MOST, LEAST, MOST},
            {LEAST, MOST, -1}, {LEAST, LEAST, 0}};
        for (int[] row : rows) {
            Check.works("m(a,b)=a%b;", row[0], row[1], row[2]);
        }
    }

    private static void comparisonsAreOneOrZero() {
        Check.sentence("comparisons are 1 or 0");
        int[] numbers = {LEAST, LEAST + 1, -1, 0, 1, MOST - 1, MOST};
        for (int a : numbers) {
            for (int b : numbers) {
                Check.works("m(a,b)=a<b;", a, b, a < b ? 1 : 0);
                Check.works("m(a,b)=a=b;", a, b, a == b ? 1 : 0);
                Check.works("m(a,b)=a>b;", a, b, a > b ? 1 : 0);
            }
        }
    }

    private static void ifTakesItsSecond() {
        Check.sentence("if takes its second expression if the first one is not 0");
        for (int a : new int[] {1, 2, -1, 256, 65536, MOST, LEAST}) {
            Check.works("m(a)=if a then 10 else 20;", a, 0, 10);
        }
        Check.works("m(a)=if a then 10 else 20;", 0, 0, 20);
        Check.works("m(a)=if make(a,c) then 10 else 20;" + CELL, 0, 0, 20);
        Check.works("m(a)=if make(a,c) then 10 else 20;" + CELL, 1, 0, 10);
        Check.works("m(a)=if a[0] then 10 else 20;", 1, 0, 20);
    }

    private static void signsGoFromTheLeft() {
        Check.sentence("(from the left)");
        Check.works("m()=10-3-2;", 0, 0, 5);
        Check.works("m()=10-3+2;", 0, 0, 9);
        Check.works("m()=100/7/3;", 0, 0, 4);
        Check.works("m()=100/7*3;", 0, 0, 42);
        Check.works("m()=100%7*3;", 0, 0, 6);
        Check.works("m()=7*100%9;", 0, 0, 7);
        Check.works("m()=2+3*4;", 0, 0, 14);
        Check.works("m()=2*3+4;", 0, 0, 10);
        Check.works("m()=2+3*4-6/2;", 0, 0, 11);
        Check.works("m()=1+1=2*1;", 0, 0, 1);
        Check.works("m()=-7/2;", 0, 0, -3);
        Check.works("m()=-1+3;", 0, 0, 2);
        Check.works("m()=2*-3-1;", 0, 0, -7);
    }

    private static void anArrayIsANumber() {
        Check.sentence("As a number an array is how many cells it has");
        Check.works("m(a)=make(a,c);" + CELL, 7, 0, 7);
        Check.works("m(a)=make(a,c)+1;" + CELL, 7, 0, 8);
        Check.works("m(a)=1-make(a,c);" + CELL, 7, 0, -6);
        Check.works("m(a)=make(a,c)*make(3,c);" + CELL, 7, 0, 21);
        Check.works("m(a)=make(a,c)/make(2,c);" + CELL, 7, 0, 3);
        Check.works("m(a)=make(a,c)%make(4,c);" + CELL, 7, 0, 3);
        Check.works("m(a)=-make(a,c);" + CELL, 7, 0, -7);
        Check.works("m(a)=make(a,c)=make(7,c);" + CELL, 7, 0, 1);
        Check.works("m(a)=make(a,c)<make(7,c);" + CELL, 7, 0, 0);
        Check.works("m(a)=make(a,c)>6;" + CELL, 7, 0, 1);
        Check.works("m(a)=make(make(a,c),c);" + CELL, 7, 0, 7);
        Check.works("m(a)=make(9,c)[make(a,c)];" + CELL, 7, 0, 149);
        Check.works("m(a)=make(0,c);" + CELL, 7, 0, 0);
        Check.works("m(a)=let b=make(a,c)in if b then b else 1;" + CELL, 7, 0, 7);
        Check.works("m(a)=f(make(a,c));f(x)=x*2;" + CELL, 7, 0, 14);
        Check.works("m(a)=make(3,d)[a];d(i,s)=make(i+5,c);" + CELL, 2, 0, 7);
    }

    private static void aNumberIsAnArrayWithoutCells() {
        Check.sentence("as an array a number has none");
        for (int number : new int[] {0, 1, 5, 40, -1, MOST, LEAST}) {
            Check.works("m(a,b)=a[b];", number, 0, 0);
            Check.works("m(a,b)=a[b];", number, 1, 0);
            Check.works("m(a,b)=a[b]+1;", number, number, 1);
        }
        Check.works("m()=5[0];", 0, 0, 0);
        Check.works("m()=5[0][0];", 0, 0, 0);
        Check.works("m()=make(3,c)[1][0];" + CELL, 0, 0, 0);
        Check.works("m()=make(3,c)[9][0];" + CELL, 0, 0, 0);
        // What a sign makes of arrays is a number.
        Check.works("m()=(make(3,c)+0)[1];" + CELL, 0, 0, 0);
        Check.works("m()=(make(3,c)*1)[1];" + CELL, 0, 0, 0);
        Check.works("m()=(--make(3,c))[1];" + CELL, 0, 0, 0);
        Check.works("m()=(make(3,c)=3)[0];" + CELL, 0, 0, 0);
        Check.works("m(a)=f(a)[0];f(a)=a;", 5, 0, 0);
    }

    private static void aDefinitionIsReachedAtOnce() {
        Check.sentence("A definition's expression is REACHED for each call: at once, whether its arguments are known or not.");
        Check.works("m()=f(n());f(a)=7;" + NEVER, 0, 0, 7);
        Check.tells("m()=f(n());f(a)=1+a;" + NEVER, 0, 0, 300, 1, 4, 6, 0, 1);
        // The argument waits for the value of the very call.
        Check.works("m()=make(1,c)[0];c(i,s)=f(s[0]);f(a)=7;", 0, 0, 7);
        Check.tells("m()=make(1,c)[0];c(i,s)=f(s[0]);f(a)=7;", 0, 0, 300, 0, 3, 9, 1, 1);
        Check.ends("m(a)=m(m(a));", 1, 0, 300, 2);
        Check.ends("m()=f(n());f(a)=f(a);" + NEVER, 0, 0, 300, 2);
    }

    private static void whatIsReachedSoAreItsParts() {
        Check.sentence("What is reached, so are its parts");
        // Each of these calls f, which is known, and has a part that never is.
        String rest = ";f()=5;g(a,b)=n();c(i,s,k)=n();" + NEVER;
        for (String sign : new String[] {"+", "-", "*", "/", "%", "<", "=", ">"}) {
            Check.tells("m()=n()" + sign + "f()" + rest, 0, 0, 300, 1, 4, 5 + 2, 0, 1);
            Check.tells("m()=f()" + sign + "n()" + rest, 0, 0, 300, 1, 4, 5 + 2, 0, 1);
        }
        Check.tells("m()=n()[f()]" + rest, 0, 0, 300, 1, 4, 5 + 2, 0, 1);
        Check.tells("m()=f()[n()]" + rest, 0, 0, 300, 1, 4, 5 + 2, 0, 1);
        Check.tells("m()=make(n(),c,f())" + rest, 0, 0, 300, 1, 4, 5 + 2, 0, 1);
        Check.tells("m()=let x=f()in n()" + rest, 0, 0, 300, 1, 4, 5 + 2, 0, 1);
        Check.tells("m()=let x=n()in-f()" + rest, 0, 0, 300, 0, 4, 5 + 4, 0, 1);
        Check.tells("m()=g(n(),f())" + rest, 0, 0, 300, 1, 7, 5 + 2 + 5, 0, 2);
    }

    private static void ofAnIfOneIsReached() {
        Check.sentence("of an if the first expression at once, one of the others when that is known");
        Check.tells("m(a)=if a then 1 else f()+2;f()=3;", 1, 0, 300, 0, 1, 3, 0, 0);
        Check.tells("m(a)=if a then 1 else f()+2;f()=3;", 0, 0, 300, 0, 2, 6, 0, 0);
        Check.tells("m(a)=if a then f()+2 else 1;f()=3;", 0, 0, 300, 0, 1, 3, 0, 0);
        Check.tells("m(a)=if a then make(9,c)else 1;" + CELL, 0, 0, 300, 0, 1, 3, 0, 0);
        Check.works("m(a)=if a then m(a-1)+a else 0;", 10, 0, 55);
        // Neither of them while the first one is not known.
        Check.tells("m()=if n()then f()else f();f()=f();" + NEVER, 0, 0, 300, 1, 3, 5, 0, 1);
        // The first one although nobody asks for the if.
        Check.tells("m(a)=let b=if f()then 1 else 2 in a;f()=3;", 5, 0, 300, 0, 2, 6, 0, 0);
    }

    private static void aCallIsANewCall() {
        Check.sentence("A reached CALL is a new call, its arguments are the expressions' values as soon as these are known.");
        Check.tells("m(a)=f(a)+f(a)+f(a);f(x)=x;", 1, 0, 300, 0, 4, 11, 0, 0);
        Check.works("m(a,b)=f(b,a);f(a,b)=a*10+b;", 1, 2, 21);
        Check.works("m()=f(1,2,3,4,5,6);f(a,b,c,d,e,g)=a+10*b+100*c+1000*d+10000*e+100000*g;", 0, 0, 654321);
        Check.works("m(a)=f(make(a,c))[2];f(x)=x;" + CELL, 3, 0, 104);
        // A name is worked out once, a call as often as it stands.
        Check.tells("m(a)=let b=f(a)in b+b+b;f(x)=x;", 1, 0, 300, 0, 2, 9, 0, 0);
        // An argument becomes known late, from a cell that another one waits for.
        Check.works("m(a)=make(5,d)[0];d(i,s)=f(s[i+1],i);f(x,i)=if i<4 then x+1 else 10;", 0, 0, 14);
    }

    private static void aMakeHasUpToFortyCells() {
        Check.sentence("N that as a number, or the nearest of 0 .. 40");
        int[][] rows = {{LEAST, 0}, {-41, 0}, {-2, 0}, {-1, 0}, {0, 0}, {1, 1}, {2, 2}, {39, 39}, {40, 40}, {41, 40}, {80, 40},
            {300, 40}, {65536, 40}, {MOST, 40}};
        for (int[] row : rows) {
            int cells = row[1];
            Check.works("m(a)=make(a,c);" + CELL, row[0], 0, cells);
            Check.tells("m(a)=make(a,c);c(i,s)=i;", row[0], 0, 41, 0, 1 + cells, 2 + cells, cells, cells);
            Check.works("m(a)=make(a,c)[" + cells + "];" + CELL, row[0], 0, 0);
            if (cells > 0) {
                int last = cells - 1;
                Check.works("m(a)=make(a,c)[" + last + "];" + CELL, row[0], 0, last * last + 100);
            }
        }
    }

    private static void aMakeIsKnownWithItsFirst() {
        Check.sentence("A reached MAKE has N cells, when its first expression is known");
        Check.tells("m()=make(n(),c);" + CELL + NEVER, 0, 0, 300, 1, 3, 5, 0, 1);
        Check.sentence("then its value is known");
        Check.tells("m()=make(2,c,n());c(i,s,k)=if i then k else 5;" + NEVER, 0, 0, 300, 0, 5, 11, 1, 3);
        Check.works("m()=make(2,c,n());c(i,s,k)=k;" + NEVER, 0, 0, 2);
        Check.works("m()=make(2,c);c(i,s)=s[i];", 0, 0, 2);
        Check.works("m()=make(2,c,n())[0];c(i,s,k)=if i then k else 5;" + NEVER, 0, 0, 5);
        // The other expressions are reached, also for no cell at all.
        Check.tells("m()=make(0,c,f());c(i,s,k)=1;f()=1;", 0, 0, 300, 0, 2, 4, 0, 0);
        Check.tells("m()=make(n(),c,f());c(i,s,k)=1;f()=1;" + NEVER, 0, 0, 300, 1, 4, 7, 0, 1);
    }

    private static void aCellIsACall() {
        Check.sentence("for each cell i there is a new call of the definition with i, the array itself, and the other "
                + "expressions' values: its value is the cell's");
        for (int i = 0; i < 4; i++) {
            Check.works("m(a,b)=make(4,c,a,b,a+b,7)[" + i + "];c(i,s,p,q,r,t)=i+10*s+100*p+1000*q+10000*r+100000*t;", 1, 2,
                    i + 40 + 100 + 2000 + 30000 + 700000);
        }
        Check.works("m(a)=make(a,c)[0];c(i,s)=if i=s-1 then 1 else s[i+1]*2;", 20, 0, 524288);
        Check.works("m(a)=make(a,c)[a-1];c(i,s)=if i<2 then i else s[i-1]+s[i-2];", 40, 0, 63245986);
        Check.works("m(a)=make(a,c)[0][0][0][1];c(i,s)=if i then 9 else s;", 2, 0, 9);
        Check.works("m()=make(3,r)[2][1];r(i,s)=make(3,c,i);c(i,s,k)=k*10+i;", 0, 0, 21);
        // Two arrays have cells of their own.
        Check.works("m()=let x=make(3,c,1)in let y=make(3,c,2)in x[2]*1000+y[1];c(i,s,k)=if i then s[i-1]+k else k*10;",
                0, 0, 12022);
    }

    private static void aFetchWaitsForBoth() {
        Check.sentence("FETCH e [ e ]: when both are known");
        Check.ends("m()=n()[0];" + NEVER, 0, 0, 300, 1);
        Check.ends("m()=5[n()];" + NEVER, 0, 0, 300, 1);
        Check.ends("m()=make(0,c)[n()];" + CELL + NEVER, 0, 0, 300, 1);
        Check.ends("m()=make(3,c)[n()];" + CELL + NEVER, 0, 0, 300, 1);
        Check.ends("m()=n()[-1];" + NEVER, 0, 0, 300, 1);
        Check.ends("m()=n()[n()];" + NEVER, 0, 0, 300, 1);
    }

    private static void aCellThatIsNotThere() {
        Check.sentence("0 if there is no such cell");
        for (int index : new int[] {LEAST, -41, -2, -1, 5, 6, 40, 41, 300, 65536, MOST}) {
            Check.works("m(a,b)=make(a,c)[b];" + CELL, 5, index, 0);
            Check.works("m(a,b)=make(a,c)[b]+7;" + CELL, 0, index, 7);
        }
        Check.works("m(a,b)=make(a,c)[b];" + CELL, 5, 0, 100);
        Check.works("m(a,b)=make(a,c)[b];" + CELL, 5, 4, 116);
        Check.works("m(a,b)=make(a,c)[b];" + CELL, 0, 0, 0);
        // The cells of another array that follow are not those of this one.
        Check.works("m(a,b)=let x=make(a,c)in let y=make(9,c)in x[b]+y[-1];" + CELL, 2, 2, 0);
        Check.works("m(a,b)=let x=make(a,c)in let y=make(9,c)in y[b]+x[-1];" + CELL, 2, 9, 0);
    }

    private static void aFetchWaitsForTheCell() {
        Check.sentence("else the cell's value as soon as that is known");
        String late = "m(a,b)=make(a,c)[b];c(i,s)=if i<3 then s[i]else i*7;";
        for (int index = 0; index < 6; index++) {
            Check.ends(late, 6, index, 300, index < 3 ? 1 : 0);
        }
        Check.works(late, 6, 5, 35);
        Check.works("m()=make(3,c)[0];c(i,s)=if i<2 then s[i+1]+1 else f(9);f(a)=if a then f(a-1)else 50;", 0, 0, 52);
        // A cell's value is an array, too, or that of another cell.
        Check.works("m()=make(3,c)[1][2][0];c(i,s)=if i=1 then s else make(i,d);d(i,s)=i+8;", 0, 0, 8);
    }

    private static void aLetIsItsSecond() {
        Check.sentence("let: the second expression's value");
        Check.works("m(a)=let b=a+1 in b*2;", 4, 0, 10);
        Check.works("m(a)=let b=n()in a;" + NEVER, 4, 0, 4);
        Check.ends("m(a)=let b=n()in b;" + NEVER, 4, 0, 300, 1);
        Check.ends("m(a)=let b=a in n();" + NEVER, 4, 0, 300, 1);
        Check.works("m(a)=(let b=make(a,c)in b)[2];" + CELL, 4, 0, 104);
        Check.tells("m(a)=let b=n()in a;" + NEVER, 4, 0, 300, 0, 3, 7, 0, 1);
        Check.tells("m(a)=let b=f(a)in 1;f(x)=x;", 4, 0, 300, 0, 2, 5, 0, 0);
    }

    private static void otherPartsWaitForTheirs() {
        Check.sentence("All other parts are known when their parts (of an if: the first one and the one taken) are.");
        for (String sign : new String[] {"+", "-", "*", "/", "%", "<", "=", ">"}) {
            Check.ends("m()=0" + sign + "n();" + NEVER, 0, 0, 300, 1);
            Check.ends("m()=n()" + sign + "0;" + NEVER, 0, 0, 300, 1);
            Check.ends("m()=n()" + sign + "n();" + NEVER, 0, 0, 300, 1);
        }
        Check.ends("m()=-n();" + NEVER, 0, 0, 300, 1);
        Check.ends("m()=f();f()=n();" + NEVER, 0, 0, 300, 1);
        Check.ends("m()=if n()then 1 else 1;" + NEVER, 0, 0, 300, 1);
        Check.ends("m()=if 1 then n()else 1;" + NEVER, 0, 0, 300, 1);
        Check.ends("m()=if 0 then 1 else n();" + NEVER, 0, 0, 300, 1);
        Check.works("m()=if 1 then 2 else n();" + NEVER, 0, 0, 2);
        Check.works("m()=if 0 then n()else 3;" + NEVER, 0, 0, 3);
    }

    private static void upToTwoNumbersAreTold() {
        Check.sentence("the first definition is called, with up to two numbers told (those beyond are 0)");
        Check.works("m()=8;", 3, 4, 8);
        Check.works("m(a)=a;", 3, 4, 3);
        Check.works("m(a,b)=a*10+b;", 3, 4, 34);
        Check.works("m(a,b,c)=a+b*10+c*100;", 3, 4, 43);
        Check.works("m(a,b,c,d,e,f)=a+b*10+(c+d+e+f)*100;", 3, 4, 43);
        for (String name : new String[] {"c", "d", "e", "f"}) {
            Check.works("m(a,b,c,d,e,f)=" + name + ";", -1, -1, 0);
        }
        for (int told : new int[] {LEAST, -1, 0, MOST}) {
            Check.works("m(a,b)=a;", told, 5, told);
            Check.works("m(a,b)=b;", 5, told, told);
        }
        // The first one on the tape, whatever it is called and whoever else calls it.
        Check.works("z(a)=y(a)+1;y(a)=if a then z(a-1) else 5;", 3, 0, 9);
        // What is told is told to this call alone.
        Check.works("m(a,b,c)=if c then a*100+b*10+c else m(c,c,b);", 3, 4, 4);
    }

    private static void whatNobodyAsksFor() {
        Check.sentence("all that is reached is worked out, also what nobody asks for, as far as it comes");
        Check.tells("m(a)=f(a,g(a+1));f(a,b)=a;g(a)=a*2;", 1, 0, 300, 0, 3, 10, 0, 0);
        Check.tells("m(a)=let b=make(3,c)in a;c(i,s)=i+1;", 1, 0, 300, 0, 4, 13, 3, 3);
        Check.tells("m(a)=f(a,n()+g());f(a,b)=a;g()=7;" + NEVER, 1, 0, 300, 0, 5, 10, 0, 1);
        Check.tells("m()=n()+(1+2*3);" + NEVER, 0, 0, 300, 1, 3, 10, 0, 1);
        Check.tells("m()=make(4,c)[0];c(i,s)=if i<2 then s[i] else i;", 0, 0, 300, 1, 5, 23, 2, 4);
        Check.tells("m()=n();" + NEVER, 0, 0, 300, 1, 3, 5, 0, 1);
    }

    private static void outcomeKnown() {
        Check.sentence("0 the call's value is known (and nothing else can become known)");
        Check.ends("m()=1;", 0, 0, 1, 0);
        Check.ends("m(a)=f(a,n());f(a,b)=a;" + NEVER, 1, 0, 300, 0);
        Check.ends("m(a)=let b=n()in a;" + NEVER, 1, 0, 300, 0);
        Check.ends("m()=make(3,c);c(i,s)=s[i];", 0, 0, 300, 0);
        Check.ends("m()=0;f()=f();", 0, 0, 1, 0);
    }

    private static void outcomeUnknown() {
        Check.sentence("1 it is not, and nothing can become known any more");
        Check.ends("m()=n();" + NEVER, 0, 0, 3, 1);
        Check.ends("m()=make(1,c)[0];c(i,s)=s[0];", 0, 0, 2, 1);
        Check.ends("m()=make(5,c)[2];c(i,s)=s[(i+1)%5];", 0, 0, 6, 1);
        Check.ends("m()=make(5,c)[2];c(i,s)=s[i-1]+s[i+1];", 0, 0, 6, 1);
        Check.ends("m()=make(2,c)[1];c(i,s)=if s[i]then 1 else 2;", 0, 0, 3, 1);
        Check.ends("m()=make(1,c)[0];c(i,s)=make(s[0],c);", 0, 0, 2, 1);
    }

    private static void outcomeTooManyCalls() {
        Check.sentence("2 there would be more calls in all than allowed");
        String below = "m(a)=if a then m(a-1)else 7;";
        for (int calls : new int[] {1, 2, 3, 41, 299, 300}) {
            Check.ends(below, calls - 1, 0, calls, 0);
            Check.ends(below, calls, 0, calls, 2);
        }
        Check.ends("m()=m();", 0, 0, 300, 2);
        Check.ends("m(a)=make(a,c);" + CELL, 40, 0, 41, 0);
        Check.ends("m(a)=make(a,c);" + CELL, 40, 0, 40, 2);
        Check.ends("m(a)=make(a,c);" + CELL, 0, 0, 1, 0);
        Check.ends("m(a)=make(a,c);" + CELL, 1, 0, 1, 2);
        // Whether the value is known, or can never be.
        Check.ends("m(a)=let b=g()in a;g()=g();", 1, 0, 300, 2);
        Check.ends("m(a)=f(a,g());f(a,b)=a;g()=g();", 1, 0, 300, 2);
        Check.ends("m(a)=let b=f()in a;f()=1;", 1, 0, 1, 2);
        Check.ends("m()=n()+g();g()=g();" + NEVER, 0, 0, 300, 2);
        Check.ends("m()=n();" + NEVER, 0, 0, 2, 2);
        // What is not reached is no call.
        Check.ends("m()=if n()then g()else g();g()=g();" + NEVER, 0, 0, 3, 1);
    }

    private static void callsUpToThreeHundred() {
        Check.sentence("Calls are at most so many in all (1 .. 300)");
        String seven = "m(a)=" + Check.many(7, "make(40,c)+") + "make(a,c);c(i,s)=i;";
        Check.tells(seven, 19, 0, 300, 0, 300, 22 + 1 + 299, 299, 299);
        Check.tells(seven, 20, 0, 300, 2, 0, 0, 0, 0);
        Check.tells(seven, 18, 0, 299, 0, 299, 22 + 1 + 298, 298, 298);
        Check.tells(seven, 19, 0, 299, 2, 0, 0, 0, 0);
        // Each of as many parts as there may be.
        Check.tells("m(a)=if a then m(a-1)+" + Check.many(51, "-") + "a else 0;", 299, 0, 300, 0,
                300, 299 * 59 + 3, 0, 0);
        String full = "m(a)=" + Check.many(7, "make(40,c)+") + "make(a,c);c(i,s)=" + Check.many(59, "-") + "i;";
        Check.tells(full, 19, 0, 300, 0, 300, 23 + 299 * 60, 299, 299);
    }
}
