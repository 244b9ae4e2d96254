import java.util.ArrayList;
import java.util.List;
import java.util.Random;
import java.util.Set;
import java.util.TreeSet;

/**
 * "The first token that cannot stand there", against the document's grammar written out as rules: behind
 * every short beginning of a text, and on long ones by chance, every token is tried.
 */
public final class GrammarTest {
    // A capital is what the rules spell out; i t e l n m are the words, a is a name, 1 a number.
    private static final String[] EXPRESSIONS = {
        "E:iEtEeE", "E:la=EnE", "E:SC", "C:", "C:<S", "C:=S", "C:>S",
        "S:TU", "U:", "U:+TU", "U:-TU",
        "T:FV", "V:", "V:*FV", "V:/FV", "V:%FV",
        "F:-F", "F:PB", "B:", "B:[E]B",
        "P:1", "P:a", "P:a(G)", "P:m(E,aH)", "P:(E)",
        "G:", "G:EJ", "J:", "J:,EJ", "H:", "H:,EH"};
    private static final String[] HEADS = {
        "X:DY", "Y:", "Y:DY", "D:a(N)=1;", "N:", "N:aO", "O:", "O:,aO"};
    private static final String TOKENS = "itelnma1(),;[]=<>+-*/%";
    private static final int LONGEST_WALK = 50;
    private static final int MOST_PARENTHESES = 20;

    private final String[] rules;
    private final String before;
    private TokenFrames x = new TokenFrames();
    private int calls;

    private GrammarTest(String[] rules, String before) {
        this.rules = rules;
        this.before = before;
    }

    public static void main(String[] args) {
        int depth = args.length > 0 ? Integer.parseInt(args[0]) : 5;
        int walks = args.length > 1 ? Integer.parseInt(args[1]) : 300;
        Check.sentence("the first token that cannot stand there");
        GrammarTest heads = new GrammarTest(HEADS, "");
        heads.tryAll("", heads.opened("X"), 12);
        GrammarTest expressions = new GrammarTest(EXPRESSIONS, "m(a)=");
        expressions.tryAll("", expressions.opened("E;"), depth);
        for (int seed = 1; seed <= walks; seed++) {
            expressions.walk(new Random(seed));
        }
        Check.end();
    }

    /** All ways to go on: stacks of what is still due, a token on top of each, or nothing. */
    private Set<String> opened(String stack) {
        Set<String> ways = new TreeSet<>();
        if (stack.isEmpty() || !Character.isUpperCase(stack.charAt(0))) {
            ways.add(stack);
            return ways;
        }
        for (String rule : rules) {
            if (rule.charAt(0) == stack.charAt(0)) {
                ways.addAll(opened(rule.substring(2) + stack.substring(1)));
            }
        }
        return ways;
    }

    private Set<String> behind(Set<String> ways, char token) {
        Set<String> next = new TreeSet<>();
        for (String way : ways) {
            if (!way.isEmpty() && way.charAt(0) == token) {
                next.addAll(opened(way.substring(1)));
            }
        }
        return next;
    }

    private void tryAll(String tokens, Set<String> ways, int depth) {
        for (char token : goingOn(tokens, ways)) {
            if (depth > 1) {
                tryAll(tokens + token, behind(ways, token), depth - 1);
            }
        }
    }

    private void walk(Random random) {
        String tokens = "";
        Set<String> ways = opened("E;");
        int parentheses = 0;
        while (tokens.length() < LONGEST_WALK && parentheses < MOST_PARENTHESES) {
            List<Character> next = goingOn(tokens, ways);
            if (next.isEmpty()) {
                return;
            }
            char token = next.get(random.nextInt(next.size()));
            // Else most walks would end early.
            if (token == ';' && next.size() > 1 && random.nextInt(8) > 0) {
                continue;
            }
            parentheses += token == '(' ? 1 : 0;
            tokens += token;
            ways = behind(ways, token);
        }
    }

    /** Tries the end and every token behind these; the tokens that can stand there. */
    private List<Character> goingOn(String tokens, Set<String> ways) {
        String text = spelt(tokens);
        boolean mayEnd = ways.contains("");
        int atEnd = answer(text);
        Check.equal("whether the end is the fault of " + text, atEnd == -1 - text.length() ? 1 : 0, mayEnd ? 0 : 1);
        List<Character> next = new ArrayList<>();
        for (char token : TOKENS.toCharArray()) {
            String longer = spelt(tokens + token);
            boolean canStand = !behind(ways, token).isEmpty();
            if (!canStand && isBesideTheRules(tokens)) {
                continue;
            }
            // No token is a ?, so it is the fault where all before it can stand.
            int place = canStand ? longer.length() : text.length();
            Check.equal("read of " + longer + "?", answer(longer + "?"), -1 - place);
            if (canStand) {
                next.add(token);
            }
        }
        return next;
    }

    /** The rules of heads know one expression alone, and those of expressions no second definition. */
    private boolean isBesideTheRules(String tokens) {
        return rules == HEADS ? tokens.endsWith("=") || tokens.endsWith("1") : tokens.endsWith(";");
    }

    /** What the text is read to; an object promises nothing behind its 512th call. */
    private int answer(String text) {
        calls += text.length() / 16 + 2;
        if (calls > 512) {
            x = new TokenFrames();
            calls = text.length() / 16 + 2;
        }
        return Check.read(x, text);
    }

    private String spelt(String tokens) {
        StringBuilder text = new StringBuilder(before);
        int names = 0;
        for (char token : tokens.toCharArray()) {
            String word = switch (token) {
                case 'i' -> "if";
                case 't' -> "then";
                case 'e' -> "else";
                case 'l' -> "let";
                case 'n' -> "in";
                case 'm' -> "make";
                default -> "" + token;
            };
            if (token == 'a' && rules == HEADS) {
                // A name that was told before would be a fault of another kind.
                names++;
                word = "" + (char) ('a' + names);
            }
            text.append(word).append(' ');
        }
        return text.toString();
    }
}
