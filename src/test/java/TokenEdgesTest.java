/** The document's sentences on blanks and tokens, each with its edges. */
public final class TokenEdgesTest {
    private static final String[] WORDS = {"if", "then", "else", "let", "in", "make"};

    public static void main(String[] args) {
        blanksStandBetweenTokens();
        noOtherByteIsBlank();
        blanksAreNotNeeded();
        aRowIsOneToken();
        aNameHasOneToEightLetters();
        namesAreTheSameWhenAllLettersAre();
        wordsAreNoNames();
        aNumberIsOfDigits();
        aNumberIsNotTooLarge();
        otherTokensAreSingleBytes();
        otherBytesAreNone();
        Check.end();
    }

    private static void blanksStandBetweenTokens() {
        Check.sentence("BLANKS (9, 10, 13, 32) may stand between TOKENS.");
        String[] tokens = ("m ( a , b ) = if a < b then let c = make ( a , d , b ) in - ( c [ a ] ) "
                + "else m ( a , b ) ; d ( i , s , k ) = i + s * k ;").split(" ");
        for (String blanks : new String[] {"\t", "\n", "\r", " ", "\t\n\r ", "   "}) {
            StringBuilder text = new StringBuilder(blanks);
            for (String token : tokens) {
                text.append(token).append(blanks);
            }
            Check.reads(text.toString(), 2);
        }
        // Inside a token they part it in two.
        Check.fault("m()=1 ^2;");
        Check.fault("m(ab)=^a b;");
        Check.fault("a ^b()=1;");
    }

    private static void noOtherByteIsBlank() {
        Check.sentence("BLANKS (9, 10, 13, 32)");
        for (int code = 0; code < 256; code++) {
            boolean isLetter = code >= 'a' && code <= 'z';
            boolean isDigit = code >= '0' && code <= '9';
            boolean isBlank = code == 9 || code == 10 || code == 13 || code == 32;
            int place = isDigit ? 0 : code == '(' ? 2 : 1;
            Check.equal("read with the byte " + code + " behind a name",
                    Check.read(new TokenFrames(), "m" + (char) code + "()=1;"), isLetter || isBlank ? 1 : -1 - place);
        }
    }

    private static void blanksAreNotNeeded() {
        Check.sentence("may stand between TOKENS");
        Check.reads("m(a)=if(a)then(1)else(let b=2 in(b))[make(a,d)]-m(a)*-a<7%m(1);d(i,s)=i;", 2);
        // But without one, letters and digits are one row.
        Check.fault("m(a)=if a ^then1 else 2;");
        Check.fault("m(a)=if ^1then 2 else 3;");
        Check.fault("m(a)=^ifa then 1 else 2;");
        Check.fault("m(a)=let b=1 ^inb;");
    }

    private static void aRowIsOneToken() {
        Check.sentence("A row of letters a .. z and digits is one token: a NAME");
        Check.reads("a(z)=z;", 1);
        Check.works("z(a)=a+0+9;", 5, 0, 14);
        for (String mixed : new String[] {"a1", "1a", "a1a", "1a1", "m0", "0m", "if1", "1if", "make9", "z9z9"}) {
            Check.fault("^" + mixed + "()=1;");
            Check.fault("m(^" + mixed + ")=1;");
            Check.fault("m()=^" + mixed + ";");
            Check.fault("m()=-^" + mixed + ";");
            Check.fault("m()=^" + mixed + "();");
            Check.fault("m()=1+^" + mixed + ";");
            Check.fault("m()=let ^" + mixed + "=1 in 2;");
            Check.fault("m()=make(1,^" + mixed + ");");
            Check.fault("m()=1 ^" + mixed + ";");
        }
        // The neighbours of a, z, 0 and 9 belong to no row.
        for (String other : new String[] {"`", "{", "A", "Z", "@", ":", ".", "_", "\u00e4", "\u0080", "\u00ff"}) {
            Check.fault("m(a)=a^" + other + ";");
            Check.fault("m(a)=1^" + other + ";");
        }
    }

    private static void aNameHasOneToEightLetters() {
        Check.sentence("a NAME (1 to 8 letters");
        for (int n = 1; n <= 20; n++) {
            String name = Check.many(n, "k");
            if (n <= 8) {
                Check.works("m(a)=" + name + "(a,7);" + name + "(x,y)=x+y;", 5, 0, 12);
                Check.works("m(" + name + ")=" + name + "*2;", 5, 0, 10);
                Check.works("m(a)=let " + name + "=a in " + name + "*2;", 5, 0, 10);
                Check.works("m(a)=make(a," + name + ")[3];" + name + "(x,y)=x+y;", 5, 0, 8);
            } else {
                Check.fault("^" + name + "()=1;");
                Check.fault("m(^" + name + ")=1;");
                Check.fault("m()=^" + name + ";");
                Check.fault("m()=^" + name + "(1);");
                Check.fault("m()=let ^" + name + "=1 in 2;");
                Check.fault("m()=make(1,^" + name + ");");
            }
        }
        Check.fault("m()=1+^" + Check.many(1400, "k") + ";");
        // A name that is too long is none, though its first or last eight letters were one.
        Check.fault("m(abcdefgh)=^abcdefghi;");
        Check.fault("m(bcdefghi)=^abcdefghi;");
        Check.fault("m(a)=^abcdefghabcdefgha;");
    }

    private static void namesAreTheSameWhenAllLettersAre() {
        Check.sentence("of one that was defined before");
        Check.works("m(a)=aaaaaaaa()+baaaaaaa()*10+aaaaaaab()*100+aaaabaaa()*1000;"
                + "aaaaaaaa()=1;baaaaaaa()=2;aaaaaaab()=3;aaaabaaa()=4;", 0, 0, 4321);
        Check.works("m(a,aa,aaa,aaaa,aaaaa,aaaaaa)=a+aa*10+aaaaaa;", 1, 2, 21);
        Check.works("ab(ba)=ba(ba)+1;ba(ab)=ab*2;", 4, 0, 9);
        Check.fault("abcdefgh()=1;^abcdefgh()=2;");
        Check.fault("m(abcdefgh,^abcdefgh)=2;");
    }

    private static void wordsAreNoNames() {
        Check.sentence("but if, then, else, let, in, make, which are words");
        for (String word : WORDS) {
            Check.fault("^" + word + "()=1;");
            Check.fault("m(^" + word + ")=1;");
            Check.fault("m(a,^" + word + ")=1;");
            Check.fault("m()=let ^" + word + "=1 in 2;");
            Check.fault("m()=make(1,^" + word + ");");
            Check.fault("m()=-" + (word.equals("make") ? "make^;" : "^" + word + ";"));
            Check.fault("m()=1 ^" + word + ";");
            // With a letter more or less they are names, and words in capitals are nothing.
            String more = word + "s";
            String less = word.substring(1);
            Check.works(more + "(" + less + ")=" + less + "+1;", 4, 0, 5);
            Check.works(less + "(" + more + ")=let x" + less + "=" + more + " in x" + less + ";", 4, 0, 4);
            Check.fault("m()=^" + word.toUpperCase() + ";");
        }
    }

    private static void aNumberIsOfDigits() {
        Check.sentence("a NUMBER (digits");
        for (int n : new int[] {0, 1, 9, 10, 99, 100, 1234567890, 2147483646, 2147483647}) {
            Check.works("m()=" + n + ";", 0, 0, n);
            Check.works("m()=000000000000000000000" + n + ";", 0, 0, n);
        }
        Check.works("m()=" + Check.many(1000, "0") + "7;", 0, 0, 7);
        Check.works("m()=" + Check.many(1000, "0") + ";", 0, 0, 0);
    }

    private static void aNumberIsNotTooLarge() {
        Check.sentence("up to 2147483647");
        String[] tooLarge = {"2147483648", "2147483650", "2147483657", "3000000000", "4294967295", "4294967296",
            "4294967297", "9223372036854775807", "9223372036854775808", "18446744073709551616",
            "18446744073709551623", "99999999999", "002147483648", Check.many(200, "9"),
            "1" + Check.many(64, "0"), "1" + Check.many(1000, "0")};
        for (String number : tooLarge) {
            Check.fault("m()=^" + number + ";");
            Check.fault("m()=1+^" + number + ";");
            Check.fault("m()=-^" + number + ";");
            Check.fault("m()=1 ^" + number + ";");
        }
        Check.works("m()=-2147483647-1;", 0, 0, Integer.MIN_VALUE);
    }

    private static void otherTokensAreSingleBytes() {
        Check.sentence("other tokens are single bytes");
        Check.fault("m()=1<^=2;");
        Check.fault("m()=1=^=2;");
        Check.fault("m()=1>^=2;");
        Check.fault("m()=1<^>2;");
        Check.fault("m()=1+^+2;");
        Check.fault("m()=1*^*2;");
        Check.fault("m()=1/^/2;");
        Check.works("m()=1--1;", 0, 0, 2);
        Check.works("m()=1<-1;", 0, 0, 0);
        Check.works("m()=---1;", 0, 0, -1);
        Check.works("m(a)=((a))+((2))[(0)];", 3, 0, 3);
    }

    private static void otherBytesAreNone() {
        Check.sentence("also one that is none such");
        for (int code = 0; code < 256; code++) {
            char c = (char) code;
            boolean isBlank = "\t\n\r ".indexOf(c) >= 0;
            boolean isLetter = c >= 'a' && c <= 'z';
            boolean isDigit = c >= '0' && c <= '9';
            boolean mayBegin = isBlank || isDigit || c == '(' || c == '-';
            Check.equal("read with the byte " + code + " where an expression begins",
                    Check.read(new TokenFrames(), "m()=" + c), mayBegin ? -6 : -5);
            boolean mayFollow = isBlank || isDigit || "+-*/%<=>[;".indexOf(c) >= 0;
            int due = c == ';' ? 1 : mayFollow ? -7 : isLetter ? -5 : -6;
            Check.equal("read with the byte " + code + " behind a number",
                    Check.read(new TokenFrames(), "m()=1" + c), due);
            boolean mayStart = isBlank || isLetter;
            Check.equal("read with the byte " + code + " at the beginning",
                    Check.read(new TokenFrames(), "" + c), mayStart ? -2 : -1);
        }
    }
}
