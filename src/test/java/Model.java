import java.util.ArrayList;
import java.util.List;

/**
 * The document once more, as plainly as can be: a parser of methods that call one another, and a
 * run that goes over everything reached again and again until nothing becomes known any more.
 */
final class Model {
    private static final List<String> WORDS = List.of("if", "then", "else", "let", "in", "make");

    private static final class Fault extends RuntimeException {
        private static final long serialVersionUID = 1;
        final int place;

        Fault(int place) {
            this.place = place;
        }
    }

    private record Token(String text, int place) {
        boolean isName() {
            return text.matches("[a-z]{1,8}") && !WORDS.contains(text);
        }

        boolean isNumber() {
            return text.matches("[0-9]+") && text.replaceFirst("^0+", "").length() <= 10
                    && Long.parseLong("0" + text.replaceFirst("^0+", "")) <= Integer.MAX_VALUE;
        }
    }

    static final class Definition {
        String name;
        final List<String> arguments = new ArrayList<>();
        Part body;
        int parts;
    }

    private static final class Part {
        String kind;
        String name;
        int namePlace;
        int number;
        Part let;
        final List<Part> inside = new ArrayList<>();
    }

    private record Value(int number, List<Call> cells) {
    }

    private static final class Call {
        Definition definition;
        List<Seat> arguments;
        Seat body;
    }

    /** A part in a call. */
    private static final class Seat {
        Part part;
        Call call;
        final List<Seat> inside = new ArrayList<>();
        Value value;
        Call made;
        List<Seat> around;
        Seat let;
    }

    List<Definition> definitions = new ArrayList<>();
    int value;
    int[] counts = new int[4];

    private List<Token> tokens;
    private int at;
    private List<Definition> reading;
    private Definition current;
    private int depth;
    private List<Part> lets;
    private List<Part> callsAndMakes;

    // ---- reading

    int read(String text) {
        try {
            tokens = tokensOf(text);
            at = 0;
            reading = new ArrayList<>();
            callsAndMakes = new ArrayList<>();
            do {
                readDefinition();
            } while (!peek("\0end"));
            bind();
        } catch (Fault fault) {
            return -1 - fault.place;
        }
        definitions = reading;
        return definitions.size();
    }

    private static List<Token> tokensOf(String text) {
        List<Token> found = new ArrayList<>();
        int i = 0;
        while (i < text.length()) {
            int from = i;
            char c = text.charAt(i++);
            if (c == 9 || c == 10 || c == 13 || c == 32) {
                continue;
            }
            if (isOfRow(c)) {
                while (i < text.length() && isOfRow(text.charAt(i))) {
                    i++;
                }
            }
            found.add(new Token(text.substring(from, i), from));
        }
        found.add(new Token("\0end", text.length()));
        return found;
    }

    private static boolean isOfRow(char c) {
        return c >= 'a' && c <= 'z' || c >= '0' && c <= '9';
    }

    private boolean peek(String text) {
        return tokens.get(at).text.equals(text);
    }

    private boolean accept(String text) {
        if (peek(text)) {
            at++;
            return true;
        }
        return false;
    }

    private Fault fault() {
        return new Fault(tokens.get(at).place);
    }

    private void expect(String text) {
        if (!accept(text)) {
            throw fault();
        }
    }

    private String name() {
        if (!tokens.get(at).isName()) {
            throw fault();
        }
        return tokens.get(at++).text;
    }

    private void readDefinition() {
        if (tokens.get(at).isName()) {
            String name = tokens.get(at).text;
            if (reading.size() == 12 || reading.stream().anyMatch(d -> d.name.equals(name))) {
                throw fault();
            }
        }
        current = new Definition();
        current.name = name();
        lets = new ArrayList<>();
        depth = 0;
        expect("(");
        if (!accept(")")) {
            do {
                if (current.arguments.size() == 6 || current.arguments.contains(tokens.get(at).text)) {
                    throw fault();
                }
                current.arguments.add(name());
            } while (accept(","));
            expect(")");
        }
        expect("=");
        current.body = expression();
        expect(";");
        reading.add(current);
    }

    /** A part that begins with the token that is due. */
    private Part part(String kind) {
        if (++current.parts > 60) {
            throw fault();
        }
        Part part = new Part();
        part.kind = kind;
        return part;
    }

    private Part expression() {
        if (peek("if")) {
            Part part = part("if");
            at++;
            part.inside.add(expression());
            expect("then");
            part.inside.add(expression());
            expect("else");
            part.inside.add(expression());
            return part;
        }
        if (peek("let")) {
            Part part = part("let");
            at++;
            part.name = name();
            expect("=");
            part.inside.add(expression());
            expect("in");
            lets.add(part);
            part.inside.add(expression());
            lets.remove(lets.size() - 1);
            return part;
        }
        Part left = sum();
        return peek("<") || peek("=") || peek(">") ? two(left, this::sum) : left;
    }

    private interface Reading {
        Part get();
    }

    private Part two(Part left, Reading right) {
        Part part = part(tokens.get(at).text);
        at++;
        part.inside.add(left);
        part.inside.add(right.get());
        return part;
    }

    private Part sum() {
        Part left = term();
        while (peek("+") || peek("-")) {
            left = two(left, this::term);
        }
        return left;
    }

    private Part term() {
        Part left = factor();
        while (peek("*") || peek("/") || peek("%")) {
            left = two(left, this::factor);
        }
        return left;
    }

    private Part factor() {
        if (peek("-")) {
            Part part = part("negate");
            at++;
            part.inside.add(factor());
            return part;
        }
        Part part = withoutFetch();
        while (peek("[")) {
            Part fetch = part("fetch");
            at++;
            fetch.inside.add(part);
            fetch.inside.add(expression());
            expect("]");
            part = fetch;
        }
        return part;
    }

    private Part withoutFetch() {
        if (tokens.get(at).isNumber()) {
            Part part = part("number");
            part.number = Integer.parseInt(tokens.get(at).text);
            at++;
            return part;
        }
        if (peek("(")) {
            if (++depth > 20) {
                throw fault();
            }
            at++;
            Part part = expression();
            expect(")");
            depth--;
            return part;
        }
        if (peek("make")) {
            return make();
        }
        if (!tokens.get(at).isName()) {
            throw fault();
        }
        return tokens.get(at + 1).text.equals("(") ? call() : alone();
    }

    private Part make() {
        Part part = part("make");
        at++;
        expect("(");
        part.inside.add(expression());
        expect(",");
        part.namePlace = tokens.get(at).place;
        part.name = name();
        while (accept(",")) {
            part.inside.add(expression());
        }
        expect(")");
        callsAndMakes.add(part);
        return part;
    }

    private Part call() {
        Part part = part("call");
        part.namePlace = tokens.get(at).place;
        part.name = name();
        expect("(");
        if (!accept(")")) {
            do {
                part.inside.add(expression());
            } while (accept(","));
            expect(")");
        }
        callsAndMakes.add(part);
        return part;
    }

    private Part alone() {
        String name = tokens.get(at).text;
        for (int i = lets.size() - 1; i >= 0; i--) {
            if (lets.get(i).name.equals(name)) {
                Part part = part("let name");
                part.let = lets.get(i);
                at++;
                return part;
            }
        }
        if (!current.arguments.contains(name)) {
            throw fault();
        }
        Part part = part("argument");
        part.number = current.arguments.indexOf(name);
        at++;
        return part;
    }

    private void bind() {
        callsAndMakes.sort((x, y) -> Integer.compare(x.namePlace, y.namePlace));
        for (Part part : callsAndMakes) {
            int given = part.kind.equals("make") ? part.inside.size() + 1 : part.inside.size();
            if (reading.stream().noneMatch(d -> d.name.equals(part.name) && d.arguments.size() == given)) {
                throw new Fault(part.namePlace);
            }
        }
    }

    // ---- running

    private List<Call> calls;
    private List<Seat> seats;
    private int most;
    private boolean tooMany;
    private int knownParts;
    private List<Call> cells;

    int run(int a, int b, int mostCalls) {
        calls = new ArrayList<>();
        seats = new ArrayList<>();
        cells = new ArrayList<>();
        most = mostCalls;
        tooMany = false;
        knownParts = 0;
        List<Seat> told = new ArrayList<>();
        for (int i = 0; i < definitions.get(0).arguments.size(); i++) {
            told.add(settled(new Value(i == 0 ? a : i == 1 ? b : 0, List.of())));
        }
        Call first = newCall(definitions.get(0).name, told);
        boolean more = true;
        while (more && !tooMany) {
            more = false;
            for (int i = 0; i < seats.size() && !tooMany; i++) {
                Seat seat = seats.get(i);
                if (seat.value == null) {
                    int before = seats.size();
                    seat.value = workOut(seat);
                    if (seat.value != null) {
                        knownParts++;
                    }
                    more |= seat.value != null || seats.size() > before;
                }
            }
        }
        value = 0;
        counts = new int[4];
        if (tooMany) {
            return 2;
        }
        int knownCells = (int) cells.stream().filter(c -> c.body.value != null).count();
        counts = new int[] {calls.size(), knownParts, knownCells, cells.size()};
        if (first.body.value == null) {
            return 1;
        }
        value = first.body.value.number;
        return 0;
    }

    private static Seat settled(Value value) {
        Seat seat = new Seat();
        seat.value = value;
        return seat;
    }

    private Call newCall(String name, List<Seat> arguments) {
        Call call = new Call();
        call.definition = definitions.stream().filter(d -> d.name.equals(name)).findFirst().orElseThrow();
        call.arguments = arguments;
        if (calls.size() == most) {
            tooMany = true;
            return call;
        }
        calls.add(call);
        call.body = reach(call.definition.body, call, new ArrayList<>());
        return call;
    }

    private Seat reach(Part part, Call call, List<Seat> around) {
        Seat seat = new Seat();
        seat.part = part;
        seat.call = call;
        seats.add(seat);
        List<Seat> inner = new ArrayList<>(around);
        inner.add(seat);
        seat.let = around.stream().filter(s -> s.part == part.let).findFirst().orElse(null);
        // Where an if goes on, its lets around must be found again.
        seat.around = inner;
        for (Part child : part.inside) {
            seat.inside.add(reach(child, call, inner));
            if (part.kind.equals("if")) {
                break;
            }
        }
        return seat;
    }

    private Value workOut(Seat seat) {
        List<Seat> inside = seat.inside;
        switch (seat.part.kind) {
            case "number":
                return new Value(seat.part.number, List.of());
            case "argument":
                return seat.call.arguments.get(seat.part.number).value;
            case "let name":
                return seat.let.inside.get(0).value;
            case "let":
                return inside.get(1).value;
            case "negate":
                return inside.get(0).value == null ? null : new Value(-inside.get(0).value.number, List.of());
            case "if":
                return choose(seat);
            case "call":
                if (seat.made == null) {
                    seat.made = newCall(seat.part.name, inside);
                }
                return tooMany ? null : seat.made.body.value;
            case "make":
                return makeCells(seat);
            case "fetch":
                if (inside.get(0).value == null || inside.get(1).value == null) {
                    return null;
                }
                List<Call> from = inside.get(0).value.cells;
                int index = inside.get(1).value.number;
                return index < 0 || index >= from.size() ? new Value(0, List.of()) : from.get(index).body.value;
            default:
                if (inside.get(0).value == null || inside.get(1).value == null) {
                    return null;
                }
                return new Value(two(seat.part.kind, inside.get(0).value.number, inside.get(1).value.number),
                        List.of());
        }
    }

    private Value choose(Seat seat) {
        Value condition = seat.inside.get(0).value;
        if (condition == null) {
            return null;
        }
        if (seat.inside.size() == 1) {
            seat.inside.add(reach(seat.part.inside.get(condition.number != 0 ? 1 : 2), seat.call, seat.around));
        }
        return seat.inside.get(1).value;
    }

    private Value makeCells(Seat seat) {
        Value size = seat.inside.get(0).value;
        if (size == null) {
            return null;
        }
        int many = size.number < 0 ? 0 : size.number > 40 ? 40 : size.number;
        List<Call> made = new ArrayList<>();
        Value array = new Value(many, made);
        for (int i = 0; i < many && !tooMany; i++) {
            List<Seat> arguments = new ArrayList<>();
            arguments.add(settled(new Value(i, List.of())));
            arguments.add(settled(array));
            arguments.addAll(seat.inside.subList(1, seat.inside.size()));
            made.add(newCall(seat.part.name, arguments));
        }
        cells.addAll(made);
        return array;
    }

    private static int two(String sign, int x, int y) {
        return switch (sign) {
            case "+" -> x + y;
            case "-" -> x - y;
            case "*" -> x * y;
            case "/" -> y == 0 ? 0 : (int) ((long) x / y);
            case "%" -> y == 0 ? 0 : (int) ((long) x % y);
            case "<" -> x < y ? 1 : 0;
            case ">" -> x > y ? 1 : 0;
            default -> x == y ? 1 : 0;
        };
    }
}
