import java.util.ArrayList;
import java.util.List;
import java.util.Random;

/** Makes texts, most of them right, from a seed. */
final class TextMaker {
    private static final String[] NAMES = {"m", "fa", "gbc", "h", "k", "abcdefgh", "w", "z", "q", "r", "t", "u", "v"};
    private static final String[] ARGUMENTS = {"a", "b", "i", "s", "n", "zzzzzzzz", "m"};
    private static final String[] LETS = {"x", "y", "a", "k"};

    private final Random random;
    private final List<Integer> arities = new ArrayList<>();
    private int current;
    private int budget;
    private int parentheses;

    TextMaker(long seed) {
        random = new Random(seed);
    }

    private boolean chance(int of) {
        return random.nextInt(of) == 0;
    }

    String make() {
        int many = chance(20) ? 11 + random.nextInt(3) : 1 + random.nextInt(5);
        arities.clear();
        for (int k = 0; k < many; k++) {
            arities.add(chance(30) ? random.nextInt(8) : random.nextInt(5));
        }
        boolean isOfCells = many > 1 && chance(3);
        if (isOfCells) {
            arities.set(0, 2);
            arities.set(1, 2 + random.nextInt(2));
        }
        StringBuilder text = new StringBuilder();
        for (current = 0; current < many; current++) {
            List<String> names = new ArrayList<>();
            text.append(NAMES[Math.min(current, 12)]).append(blank()).append('(');
            for (int i = 0; i < arities.get(current); i++) {
                String name = chance(200) ? "a" : ARGUMENTS[Math.min(i, 6)];
                text.append(i > 0 ? "," : "").append(blank()).append(name);
                names.add(name);
            }
            budget = chance(8) ? 45 + random.nextInt(30) : 2 + random.nextInt(20);
            text.append(')').append(blank()).append('=');
            if (isOfCells && current == 0) {
                text.append("make(a+").append(random.nextInt(9)).append(",fa");
                text.append(arities.get(1) == 2 ? ")[" : ",b)[").append(random.nextInt(4)).append("]+");
                text.append(signs(names, 0));
            } else {
                text.append(expression(names, 0));
            }
            text.append(';').append(blank());
        }
        return text.toString();
    }

    /** Something about a text that was right is changed. */
    String spoil(String text) {
        String other = text;
        for (int i = random.nextInt(3); i >= 0; i--) {
            int at = random.nextInt(other.length() + 1);
            int to = Math.min(other.length(), at + random.nextInt(4));
            String[] pieces = {"", "", "(", ")", "[", "]", ",", ";", "=", "<", "-", "+", "1", "a", " if ", " then ",
                " else ", " let ", " in ", "make(", "make", "m(", "x", "99999999999", "a1", "~", "\u00e4", "\0", " "};
            other = other.substring(0, at) + pieces[random.nextInt(pieces.length)] + other.substring(to);
        }
        return other;
    }

    private String blank() {
        return chance(12) ? " \n\t\r".substring(random.nextInt(4)).substring(0, 1) : "";
    }

    private String expression(List<String> names, int level) {
        budget--;
        if (budget > 2 && level < 25 && chance(5)) {
            return " if " + expression(names, level + 1) + " then " + expression(names, level + 1)
                    + " else " + expression(names, level + 1);
        }
        if (budget > 2 && level < 25 && chance(7)) {
            String name = LETS[random.nextInt(LETS.length)];
            String first = expression(names, level + 1);
            List<String> inner = new ArrayList<>(names);
            inner.add(name);
            return " let " + name + "=" + first + " in " + expression(inner, level + 1);
        }
        String sum = signs(names, level);
        return chance(5) ? sum + "<=>".charAt(random.nextInt(3)) + signs(names, level) : sum;
    }

    private String signs(List<String> names, int level) {
        StringBuilder text = new StringBuilder(factor(names, level));
        while (budget > 1 && chance(2)) {
            budget--;
            text.append(blank()).append("++-*/%".charAt(random.nextInt(6))).append(blank()).append(factor(names, level));
        }
        return text.toString();
    }

    private String factor(List<String> names, int level) {
        budget--;
        if (chance(9)) {
            return "-" + factor(names, level);
        }
        StringBuilder text = new StringBuilder(withoutFetch(names, level));
        while (budget > 1 && level < 25 && chance(4)) {
            text.append('[').append(expression(names, level + 1)).append(']');
        }
        return text.toString();
    }

    private String withoutFetch(List<String> names, int level) {
        int kind = budget > 1 && level < 25 ? random.nextInt(9) : random.nextInt(5);
        if (kind <= 1 || kind <= 4 && names.isEmpty()) {
            return chance(30) ? "" + random.nextInt(Integer.MAX_VALUE) : "" + random.nextInt(6);
        }
        if (kind == 4 && names.size() > 1 && budget > 3) {
            // In a cell: another one of the same array, or itself.
            budget -= 4;
            return names.get(1) + "[" + names.get(0) + "+-%".charAt(random.nextInt(3)) + random.nextInt(4) + "]";
        }
        if (kind <= 4) {
            return names.get(random.nextInt(names.size()));
        }
        if (kind == 5) {
            int many = chance(10) ? 1 + random.nextInt(22) : 1;
            return "(".repeat(many) + expression(names, level + 1) + ")".repeat(many);
        }
        // Mostly later definitions, so that many runs come to an end.
        int last = arities.size() - 1;
        int called = current < last && !chance(8) ? current + 1 + random.nextInt(last - current) : random.nextInt(last + 1);
        int arity = chance(150) ? random.nextInt(8) : arities.get(called);
        boolean isMake = arity >= 2 && chance(2);
        if (!isMake && called <= current && !chance(10)) {
            return "7";
        }
        StringBuilder text = new StringBuilder(isMake ? "make(" + expression(names, level + 1) + "," : "");
        text.append(NAMES[Math.min(called, 12)]).append(isMake ? "" : "(");
        for (int i = isMake ? 2 : 0; i < arity; i++) {
            text.append(i > 0 ? "," : "").append(expression(names, level + 1));
        }
        return text.append(')').toString();
    }
}
