/**
 * A language in which everything is defined once, and a machine of tokens that works it out.
 * The promises are those of DOC.md; the Java is that of LANGUAGE.md.
 */
public final class TokenFrames {
    public static final int NONE = -1;

    private static final int MOST_FED = 16;
    private static final int RUN_COUNTS = 4;
    private static final int COUNT_DEFINITIONS = 4;
    private static final int COUNT_BYTES = 5;

    private final Reader reader = new Reader();
    private final Machine machine = new Machine();
    private final int[] latestCounts = new int[RUN_COUNTS];
    private int latestValue;

    public TokenFrames() {
    }

    public int feed(int a, int b, int c, int d, int n)
            throws IllegalArgumentException, UnsupportedOperationException {
        if (n < 1 || n > MOST_FED) {
            throw new IllegalArgumentException();
        }
        if (n > reader.tape.room()) {
            throw new UnsupportedOperationException();
        }
        for (int i = 0; i < n; i++) {
            int word = i < 4 ? a : i < 8 ? b : i < 12 ? c : d;
            reader.tape.add(word >>> (24 - 8 * (i % 4)) & 255);
        }
        return reader.tape.length;
    }

    public int read() {
        int fault = reader.readText();
        reader.tape.makeEmpty();
        if (fault != NONE) {
            return -1 - fault;
        }
        machine.program = reader.exchangeFor(machine.program);
        return machine.program.definitions;
    }

    public int run(int a, int b, int calls, int order)
            throws IllegalStateException, IllegalArgumentException {
        if (machine.program.definitions == 0) {
            throw new IllegalStateException();
        }
        if (calls < 1 || calls > Machine.MOST_CALLS) {
            throw new IllegalArgumentException();
        }
        machine.prepare(a, b, calls, order);
        int outcome = machine.workOutAll();
        forgetRun();
        if (outcome != Machine.TOO_MANY_CALLS) {
            latestValue = outcome == Machine.VALUE_KNOWN ? machine.outcomeNumber() : 0;
            latestCounts[0] = machine.calls;
            latestCounts[1] = machine.knownParts();
            latestCounts[2] = machine.knownCells();
            latestCounts[3] = machine.cells;
        }
        return outcome;
    }

    public int value() {
        return latestValue;
    }

    public int count(int what) throws IndexOutOfBoundsException {
        if (what < 0 || what > COUNT_BYTES) {
            throw new IndexOutOfBoundsException();
        }
        if (what == COUNT_BYTES) {
            return reader.tape.length;
        }
        return what == COUNT_DEFINITIONS ? machine.program.definitions : latestCounts[what];
    }

    public int definition(int k, int what) throws IndexOutOfBoundsException {
        if (k < 0 || k >= machine.program.definitions || what < 0 || what > 1) {
            throw new IndexOutOfBoundsException();
        }
        return what == 0 ? machine.program.arguments[k] : machine.program.parts[k];
    }

    public void clear() {
        machine.program.definitions = 0;
        reader.tape.makeEmpty();
        forgetRun();
    }

    private void forgetRun() {
        latestValue = 0;
        for (int i = 0; i < RUN_COUNTS; i++) {
            latestCounts[i] = 0;
        }
    }

    /** The bytes that were fed, and the tokens that they are, one at a time. */
    private static final class Tape {
        // A sign's kind is its own byte, and all of those lie above these.
        static final int END = 0;
        static final int UNKNOWN = 1;
        static final int NAME = 2;
        static final int NUMBER = 3;
        static final int IF = 4;
        static final int THEN = 5;
        static final int ELSE = 6;
        static final int LET = 7;
        static final int IN = 8;
        static final int MAKE = 9;

        private static final int MOST_BYTES = 1500;
        private static final String SIGNS = "(),;[]=<>+-*/%";
        private static final int MOST_LETTERS = 8;
        private static final long MOST_NUMBER = 2147483647L;
        // Eight letters fit into a long, a byte each; so names are kept, and these are the words.
        private static final long WORD_IF = 0x6966L;
        private static final long WORD_THEN = 0x7468656eL;
        private static final long WORD_ELSE = 0x656c7365L;
        private static final long WORD_LET = 0x6c6574L;
        private static final long WORD_IN = 0x696eL;
        private static final long WORD_MAKE = 0x6d616b65L;

        private final int[] bytes = new int[MOST_BYTES];
        private int next;
        int length;
        // The token that is due: what it is, where it begins, and its letters or its number.
        int kind;
        int place;
        long name;
        int number;

        int room() {
            return MOST_BYTES - length;
        }

        void add(int code) {
            if (length < MOST_BYTES) {
                bytes[length] = code;
                length++;
            }
        }

        void makeEmpty() {
            length = 0;
        }

        void goToFirst() {
            next = 0;
            advance();
        }

        void advance() {
            while (next < length && isBlank(bytes[next])) {
                next++;
            }
            place = next;
            if (next >= length) {
                kind = END;
            } else if (isLetter(bytes[next]) || isDigit(bytes[next])) {
                takeRow();
            } else {
                kind = SIGNS.indexOf((char) bytes[next]) >= 0 ? bytes[next] : UNKNOWN;
                next++;
            }
        }

        boolean isParenthesisNext() {
            int ahead = next;
            while (ahead < length && isBlank(bytes[ahead])) {
                ahead++;
            }
            return ahead < length && bytes[ahead] == '(';
        }

        private void takeRow() {
            int letters = 0;
            long spelt = 0;
            long counted = 0;
            while (next < length && (isLetter(bytes[next]) || isDigit(bytes[next]))) {
                int code = bytes[next];
                if (isLetter(code)) {
                    letters++;
                    spelt = spelt << 8 | code;
                } else {
                    // Held just above the limit, so that no row of digits wraps round to a small number.
                    counted = Math.min(counted * 10 + code - '0', MOST_NUMBER + 1);
                }
                next++;
            }
            if (letters == next - place && letters <= MOST_LETTERS) {
                name = spelt;
                kind = wordOrName(spelt);
            } else if (letters == 0 && counted <= MOST_NUMBER) {
                number = (int) counted;
                kind = NUMBER;
            } else {
                kind = UNKNOWN;
            }
        }

        private static int wordOrName(long spelt) {
            if (spelt == WORD_IF) {
                return IF;
            }
            if (spelt == WORD_THEN) {
                return THEN;
            }
            if (spelt == WORD_ELSE) {
                return ELSE;
            }
            if (spelt == WORD_LET) {
                return LET;
            }
            if (spelt == WORD_IN) {
                return IN;
            }
            return spelt == WORD_MAKE ? MAKE : NAME;
        }

        private static boolean isBlank(int code) {
            return code == 9 || code == 10 || code == 13 || code == 32;
        }

        private static boolean isLetter(int code) {
            return code >= 'a' && code <= 'z';
        }

        private static boolean isDigit(int code) {
            return code >= '0' && code <= '9';
        }
    }

    /** Definitions and their parts; part p of definition d bears the number d * MOST_PARTS + p. */
    private static final class Program {
        static final int MOST_DEFINITIONS = 12;
        static final int MOST_ARGUMENTS = 6;
        static final int MOST_PARTS = 60;
        static final int ALL_PARTS = MOST_DEFINITIONS * MOST_PARTS;

        // The kinds of parts; one between two expressions has its sign's byte as its kind.
        static final int NUMBER = 1;
        static final int ARGUMENT = 2;
        static final int LET_NAME = 3;
        static final int NEGATE = 4;
        static final int IF = 5;
        static final int LET = 6;
        static final int CALL = 7;
        static final int MAKE = 8;
        static final int FETCH = 9;

        int definitions;
        final int[] arguments = new int[MOST_DEFINITIONS];
        final int[] parts = new int[MOST_DEFINITIONS];
        final int[] root = new int[MOST_DEFINITIONS];
        final int[] kind = new int[ALL_PARTS];
        // The number itself, which argument, the let of a let's name, the definition that is called.
        final int[] number = new int[ALL_PARTS];
        final int[] children = new int[ALL_PARTS];
        private final int[] child = new int[ALL_PARTS * MOST_ARGUMENTS];

        boolean isFull(int definition) {
            return parts[definition] >= MOST_PARTS;
        }

        /** The new part's number; the caller has asked isFull before. */
        int addPart(int definition, int ofKind, int ofNumber) {
            int part = definition * MOST_PARTS + parts[definition];
            parts[definition]++;
            kind[part] = ofKind;
            number[part] = ofNumber;
            children[part] = 0;
            return part;
        }

        /** Children beyond the most that a definition takes are counted alone: no such call is ever run. */
        void attach(int part, int newChild) {
            if (children[part] < MOST_ARGUMENTS) {
                child[part * MOST_ARGUMENTS + children[part]] = newChild;
            }
            children[part]++;
        }

        int childOf(int part, int k) {
            return child[part * MOST_ARGUMENTS + k];
        }
    }

    /**
     * Reads a text, token by token. What has begun and not ended stands in a row of its own, the
     * innermost last: a text may nest deeper than methods that call one another should go.
     */
    private static final class Reader {
        // What is due next, in the head of a definition,
        private static final int DEFINITION_NAME = 0;
        private static final int ARGUMENTS = 1;
        private static final int FIRST_ARGUMENT = 2;
        private static final int ARGUMENT = 3;
        private static final int BEHIND_ARGUMENT = 4;
        private static final int EQUALS = 5;
        // and in its expression.
        private static final int BEGINNING = 6;
        private static final int CONTINUATION = 7;
        private static final int CALL_OPENING = 8;
        private static final int FIRST_OF_CALL = 9;
        private static final int MAKE_OPENING = 10;
        private static final int MAKE_NAME = 11;
        private static final int BEHIND_MAKE_NAME = 12;
        private static final int LET_NAME = 13;
        private static final int LET_EQUALS = 14;

        // What may be open beside parts.
        private static final int BODY = -1;
        private static final int PARENTHESES = -2;
        private static final int MOST_PARENTHESES = 20;
        private static final int MOST_OPEN = Program.MOST_PARTS + MOST_PARENTHESES + 1;

        // How tightly signs bind; 0 is for what is no sign.
        private static final int COMPARISON_LEVEL = 1;
        private static final int SUM_LEVEL = 2;
        private static final int TERM_LEVEL = 3;
        private static final int NEGATE_LEVEL = 4;

        final Tape tape = new Tape();
        private final long[] definitionNames = new long[Program.MOST_DEFINITIONS];
        private final long[] argumentNames = new long[Program.MOST_ARGUMENTS];
        // The names that stand in LET, CALL and MAKE, and where.
        private final long[] partNames = new long[Program.ALL_PARTS];
        private final int[] partPlaces = new int[Program.ALL_PARTS];
        private final int[] open = new int[MOST_OPEN];
        private Program program = new Program();
        private int current;
        private int opened;
        private int parentheses;
        private int latest;
        private int due;
        private int fault;

        /** The place of the fault, or NONE. */
        int readText() {
            program.definitions = 0;
            due = DEFINITION_NAME;
            fault = NONE;
            tape.goToFirst();
            for (int i = 0; i < tape.length && fault == NONE && tape.kind != Tape.END; i++) {
                if (due == BEGINNING) {
                    takeBeginning();
                } else if (due == CONTINUATION) {
                    takeContinuation();
                } else if (due < BEGINNING) {
                    takeOfHead();
                } else {
                    takeOfCallMakeLet();
                }
                if (fault == NONE) {
                    tape.advance();
                }
            }
            boolean mayEnd = due == DEFINITION_NAME && program.definitions > 0;
            if (fault == NONE && !mayEnd) {
                fail();
            }
            if (fault == NONE) {
                bindCalls();
            }
            return fault;
        }

        /** What was read; the next text goes into the other one, as a fault in it must not harm this one. */
        Program exchangeFor(Program other) {
            Program full = program;
            program = other;
            return full;
        }

        private void takeOfHead() {
            switch (due) {
                case DEFINITION_NAME:
                    takeDefinitionName();
                    break;
                case ARGUMENTS:
                    expect('(', FIRST_ARGUMENT);
                    break;
                case FIRST_ARGUMENT:
                    if (tape.kind == ')') {
                        due = EQUALS;
                    } else {
                        takeArgumentName();
                    }
                    break;
                case ARGUMENT:
                    takeArgumentName();
                    break;
                case BEHIND_ARGUMENT:
                    if (tape.kind == ',') {
                        due = ARGUMENT;
                    } else {
                        expect(')', EQUALS);
                    }
                    break;
                default:
                    expect('=', BEGINNING);
                    break;
            }
        }

        private void takeDefinitionName() {
            current = program.definitions;
            if (tape.kind != Tape.NAME || current == Program.MOST_DEFINITIONS
                    || definitionNamed(tape.name) != NONE) {
                fail();
                return;
            }
            definitionNames[current] = tape.name;
            program.arguments[current] = 0;
            program.parts[current] = 0;
            opened = 0;
            parentheses = 0;
            begin(BODY, ARGUMENTS);
        }

        private void takeArgumentName() {
            int told = program.arguments[current];
            if (tape.kind != Tape.NAME || told == Program.MOST_ARGUMENTS
                    || argumentNamed(tape.name) != NONE) {
                fail();
                return;
            }
            argumentNames[told] = tape.name;
            program.arguments[current]++;
            due = BEHIND_ARGUMENT;
        }

        private void takeBeginning() {
            // Whatever may stand here begins a part, but for a parenthesis.
            if (tape.kind != '(' && program.isFull(current)) {
                fail();
                return;
            }
            switch (tape.kind) {
                case Tape.NUMBER:
                    addLeaf(Program.NUMBER, tape.number);
                    break;
                case Tape.NAME:
                    takeName();
                    break;
                case Tape.MAKE:
                    beginPart(Program.MAKE, MAKE_OPENING);
                    break;
                case Tape.IF:
                case Tape.LET:
                    takeIfOrLet();
                    break;
                case '-':
                    beginPart(Program.NEGATE, BEGINNING);
                    break;
                case '(':
                    takeParenthesis();
                    break;
                default:
                    fail();
                    break;
            }
        }

        private void takeName() {
            if (tape.isParenthesisNext()) {
                int call = beginPart(Program.CALL, CALL_OPENING);
                keepName(call);
                return;
            }
            int let = letNamed(tape.name);
            int argument = argumentNamed(tape.name);
            if (let != NONE) {
                addLeaf(Program.LET_NAME, let);
            } else if (argument != NONE) {
                addLeaf(Program.ARGUMENT, argument);
            } else {
                fail();
            }
        }

        private void takeIfOrLet() {
            boolean isBehindSign = levelOf(innermost()) > 0;
            if (isBehindSign) {
                fail();
            } else if (tape.kind == Tape.IF) {
                beginPart(Program.IF, BEGINNING);
            } else {
                beginPart(Program.LET, LET_NAME);
            }
        }

        private void takeParenthesis() {
            if (parentheses == MOST_PARENTHESES) {
                fail();
                return;
            }
            parentheses++;
            begin(PARENTHESES, BEGINNING);
        }

        private void takeOfCallMakeLet() {
            switch (due) {
                case CALL_OPENING:
                    expect('(', FIRST_OF_CALL);
                    break;
                case FIRST_OF_CALL:
                    if (tape.kind == ')') {
                        end();
                    } else {
                        takeBeginning();
                    }
                    break;
                case MAKE_OPENING:
                    expect('(', BEGINNING);
                    break;
                case MAKE_NAME:
                    keepName(innermost());
                    expect(Tape.NAME, BEHIND_MAKE_NAME);
                    break;
                case BEHIND_MAKE_NAME:
                    if (tape.kind == ')') {
                        end();
                    } else {
                        expect(',', BEGINNING);
                    }
                    break;
                case LET_NAME:
                    keepName(innermost());
                    expect(Tape.NAME, LET_EQUALS);
                    break;
                default:
                    expect('=', BEGINNING);
                    break;
            }
        }

        private void takeContinuation() {
            int level = levelOfSign(tape.kind);
            if (level > 0) {
                takeSign(level);
            } else if (tape.kind != '[') {
                endExpression();
            } else if (program.isFull(current)) {
                fail();
            } else {
                beginPartBehind(Program.FETCH);
            }
        }

        private void takeSign(int level) {
            // A comparison does not end another one: where one is open, a second cannot stand.
            endSigns(Math.max(level, SUM_LEVEL));
            boolean isSecondComparison =
                    level == COMPARISON_LEVEL && levelOf(innermost()) == COMPARISON_LEVEL;
            if (isSecondComparison || program.isFull(current)) {
                fail();
            } else {
                beginPartBehind(tape.kind);
            }
        }

        private void endExpression() {
            endSigns(COMPARISON_LEVEL);
            for (int left = opened; left > 0 && isInLastExpression(innermost()); left--) {
                endWithLatest();
            }
            int around = innermost();
            if (around == BODY) {
                endBody();
            } else if (around == PARENTHESES) {
                endParentheses();
            } else {
                endExpressionIn(around);
            }
        }

        private void endBody() {
            program.root[current] = latest;
            program.definitions++;
            expect(';', DEFINITION_NAME);
        }

        private void endParentheses() {
            opened--;
            parentheses--;
            expect(')', CONTINUATION);
        }

        private void endExpressionIn(int part) {
            int kind = program.kind[part];
            boolean isSize = kind == Program.MAKE && program.children[part] == 0;
            boolean isInList = kind == Program.CALL || kind == Program.MAKE && !isSize;
            if (isInList && tape.kind == ')' || kind == Program.FETCH && tape.kind == ']') {
                endWithLatest();
            } else if (isSize && tape.kind == ',') {
                program.attach(part, latest);
                due = MAKE_NAME;
            } else if (isInList && tape.kind == ',' || tape.kind == wordBehind(part)) {
                program.attach(part, latest);
                due = BEGINNING;
            } else {
                fail();
            }
        }

        /** The word that goes on with an if or a let, or NONE. */
        private int wordBehind(int part) {
            if (program.kind[part] == Program.LET) {
                return Tape.IN;
            }
            if (program.kind[part] == Program.IF) {
                return program.children[part] == 0 ? Tape.THEN : Tape.ELSE;
            }
            return NONE;
        }

        private boolean isInLastExpression(int entry) {
            if (entry < 0) {
                return false;
            }
            int kind = program.kind[entry];
            return kind == Program.IF && program.children[entry] == 2
                    || kind == Program.LET && program.children[entry] == 1;
        }

        private void addLeaf(int kind, int number) {
            latest = program.addPart(current, kind, number);
            due = CONTINUATION;
        }

        private int beginPart(int kind, int dueNext) {
            int part = program.addPart(current, kind, 0);
            begin(part, dueNext);
            return part;
        }

        private void beginPartBehind(int kind) {
            int first = latest;
            program.attach(beginPart(kind, BEGINNING), first);
        }

        private void begin(int entry, int dueNext) {
            open[opened] = entry;
            opened++;
            due = dueNext;
        }

        private void end() {
            opened--;
            latest = open[opened];
            due = CONTINUATION;
        }

        private void endWithLatest() {
            program.attach(innermost(), latest);
            end();
        }

        private void endSigns(int fromLevel) {
            for (int left = opened; left > 0 && levelOf(innermost()) >= fromLevel; left--) {
                endWithLatest();
            }
        }

        private int innermost() {
            return opened > 0 ? open[opened - 1] : BODY;
        }

        private int levelOf(int entry) {
            if (entry < 0) {
                return 0;
            }
            int kind = program.kind[entry];
            return kind == Program.NEGATE ? NEGATE_LEVEL : levelOfSign(kind);
        }

        private static int levelOfSign(int kind) {
            switch (kind) {
                case '<':
                case '=':
                case '>':
                    return COMPARISON_LEVEL;
                case '+':
                case '-':
                    return SUM_LEVEL;
                case '*':
                case '/':
                case '%':
                    return TERM_LEVEL;
                default:
                    return 0;
            }
        }

        private void keepName(int part) {
            if (part >= 0) {
                partNames[part] = tape.name;
                partPlaces[part] = tape.place;
            }
        }

        private int letNamed(long name) {
            for (int i = opened - 1; i >= 0; i--) {
                int entry = open[i];
                if (entry >= 0 && program.kind[entry] == Program.LET
                        && program.children[entry] == 1 && partNames[entry] == name) {
                    return entry;
                }
            }
            return NONE;
        }

        private int argumentNamed(long name) {
            for (int i = 0; i < program.arguments[current]; i++) {
                if (argumentNames[i] == name) {
                    return i;
                }
            }
            return NONE;
        }

        private int definitionNamed(long name) {
            for (int i = 0; i < program.definitions; i++) {
                if (definitionNames[i] == name) {
                    return i;
                }
            }
            return NONE;
        }

        private void bindCalls() {
            for (int k = 0; k < program.definitions; k++) {
                int first = k * Program.MOST_PARTS;
                for (int part = first; part < first + program.parts[k]; part++) {
                    if (program.kind[part] == Program.CALL || program.kind[part] == Program.MAKE) {
                        bindCall(part);
                    }
                }
            }
        }

        private void bindCall(int part) {
            // A cell's call is told the cell and the array, but not the MAKE's first expression.
            int given = program.children[part] + (program.kind[part] == Program.MAKE ? 1 : 0);
            int called = definitionNamed(partNames[part]);
            if (called != NONE && program.arguments[called] == given) {
                program.number[part] = called;
            } else if (fault == NONE || partPlaces[part] < fault) {
                // A MAKE comes before the parts of its first expression, but its name behind them.
                fault = partPlaces[part];
            }
        }

        private void expect(int kind, int dueNext) {
            if (tape.kind == kind) {
                due = dueNext;
            } else {
                fail();
            }
        }

        private void fail() {
            fault = tape.place;
        }
    }

    /** The slots that are to be looked at, handed out in the order that a run asks for. */
    private static final class Bag {
        private static final int OLDEST_FIRST = 0;
        private static final int NEWEST_FIRST = 1;

        private final int[] tokens = new int[Slots.MOST_SLOTS];
        private int oldest;
        private int held;
        private int order;
        private int seed;

        void emptyFor(int newOrder) {
            oldest = 0;
            held = 0;
            order = newOrder;
            seed = newOrder;
        }

        boolean isEmpty() {
            return held == 0;
        }

        void put(int token) {
            // A slot is in the bag or waits, never twice, so there is always room.
            if (held < tokens.length) {
                tokens[(oldest + held) % tokens.length] = token;
                held++;
            }
        }

        /** The next token; the caller has asked isEmpty before. */
        int take() {
            int first = oldest;
            int last = (oldest + held - 1) % tokens.length;
            held--;
            if (order == OLDEST_FIRST) {
                oldest = (oldest + 1) % tokens.length;
                return tokens[first];
            }
            int chosen = order == NEWEST_FIRST ? last : (first + chance()) % tokens.length;
            int token = tokens[chosen];
            tokens[chosen] = tokens[last];
            return token;
        }

        /** One of 0 .. held, as one token has just been taken off. */
        private int chance() {
            seed = seed * 1103515245 + 12345;
            return (seed >>> 8) % (held + 1);
        }
    }

    /**
     * What has become of every part of every call. A slot that is reached and not known is either
     * in the bag or in the row of those that wait for one other slot.
     */
    private static final class Slots {
        static final int MOST_SLOTS = Machine.MOST_CALLS * Program.MOST_PARTS;

        private static final int ABSENT = 0;
        private static final int NEW = 1;
        private static final int SEEN = 2;
        private static final int KNOWN = 3;

        final Bag bag = new Bag();
        private final int[] state = new int[MOST_SLOTS];
        // As a number; for an array besides, the call of its first cell, the others' follow.
        private final int[] number = new int[MOST_SLOTS];
        private final int[] array = new int[MOST_SLOTS];
        private final int[] firstWaiting = new int[MOST_SLOTS];
        private final int[] nextWaiting = new int[MOST_SLOTS];
        int known;

        void emptyFor(int order) {
            bag.emptyFor(order);
            known = 0;
        }

        void forget(int firstSlot, int many) {
            for (int slot = firstSlot; slot < firstSlot + many; slot++) {
                state[slot] = ABSENT;
            }
        }

        void reach(int slot) {
            if (state[slot] == ABSENT) {
                state[slot] = NEW;
                firstWaiting[slot] = NONE;
                bag.put(slot);
            }
        }

        /** Whether this is the first look at the slot. */
        boolean see(int slot) {
            boolean first = state[slot] == NEW;
            state[slot] = SEEN;
            return first;
        }

        boolean isKnown(int slot) {
            return state[slot] == KNOWN;
        }

        int numberAt(int slot) {
            return number[slot];
        }

        int arrayAt(int slot) {
            return array[slot];
        }

        void settle(int slot, int asNumber, int asArray) {
            state[slot] = KNOWN;
            number[slot] = asNumber;
            array[slot] = asArray;
            known++;
            int waiting = firstWaiting[slot];
            for (int i = 0; i < MOST_SLOTS && waiting != NONE; i++) {
                bag.put(waiting);
                waiting = nextWaiting[waiting];
            }
        }

        /** Whether another slot is known; if not, this one is looked at again when it is. */
        boolean has(int slot, int other) {
            if (state[other] == KNOWN) {
                return true;
            }
            nextWaiting[slot] = firstWaiting[other];
            firstWaiting[other] = slot;
            return false;
        }

        void follow(int slot, int other) {
            if (has(slot, other)) {
                settle(slot, number[other], array[other]);
            }
        }
    }

    /** Runs a program: part p of call c has the slot c * MOST_PARTS + p. */
    private static final class Machine {
        static final int MOST_CALLS = 300;
        static final int VALUE_KNOWN = 0;
        static final int VALUE_UNKNOWN = 1;
        static final int TOO_MANY_CALLS = 2;

        private static final int MOST_CELLS = 40;
        // A slot is looked at four times at most, so this is far more than any run needs.
        private static final int MOST_LOOKS = 1000000;

        private final Slots slots = new Slots();
        // For the slot of a CALL, the call that it is.
        private final int[] made = new int[Slots.MOST_SLOTS];
        private final int[] definitionOf = new int[MOST_CALLS];
        // The slot of the CALL or MAKE that a call comes from, and which cell it is; NONE for no such.
        private final int[] makerOf = new int[MOST_CALLS];
        private final int[] cellOf = new int[MOST_CALLS];
        Program program = new Program();
        private int firstTold;
        private int secondTold;
        private int mostCalls;
        private boolean tooMany;
        int calls;
        int cells;

        void prepare(int a, int b, int most, int order) {
            firstTold = a;
            secondTold = b;
            mostCalls = Math.min(most, MOST_CALLS);
            tooMany = false;
            calls = 0;
            cells = 0;
            slots.emptyFor(order);
        }

        int workOutAll() {
            beginCall(0, NONE, NONE);
            for (int i = 0; i < MOST_LOOKS && !tooMany && !slots.bag.isEmpty(); i++) {
                lookAt(slots.bag.take());
            }
            if (tooMany) {
                return TOO_MANY_CALLS;
            }
            return slots.isKnown(rootOf(0)) ? VALUE_KNOWN : VALUE_UNKNOWN;
        }

        int outcomeNumber() {
            return slots.numberAt(rootOf(0));
        }

        int knownParts() {
            return slots.known;
        }

        int knownCells() {
            int found = 0;
            for (int call = 0; call < calls; call++) {
                if (cellOf[call] != NONE && slots.isKnown(rootOf(call))) {
                    found++;
                }
            }
            return found;
        }

        private int beginCall(int definition, int maker, int cell) {
            if (calls >= mostCalls) {
                tooMany = true;
                return NONE;
            }
            int call = calls;
            calls++;
            definitionOf[call] = definition;
            makerOf[call] = maker;
            cellOf[call] = cell;
            slots.forget(call * Program.MOST_PARTS, program.parts[definition]);
            slots.reach(rootOf(call));
            return call;
        }

        private void lookAt(int slot) {
            int part = partOf(slot);
            if (slots.see(slot)) {
                reachInside(slot, part);
            }
            if (tooMany) {
                return;
            }
            switch (program.kind[part]) {
                case Program.NUMBER:
                    slots.settle(slot, program.number[part], NONE);
                    break;
                case Program.ARGUMENT:
                    workOutArgument(slot, program.number[part]);
                    break;
                case Program.LET_NAME:
                    slots.follow(slot, inside(slot, program.number[part], 0));
                    break;
                case Program.NEGATE:
                    negate(slot, inside(slot, part, 0));
                    break;
                case Program.IF:
                    choose(slot, part);
                    break;
                case Program.LET:
                    slots.follow(slot, inside(slot, part, 1));
                    break;
                case Program.CALL:
                    slots.follow(slot, rootOf(made[slot]));
                    break;
                case Program.MAKE:
                    makeCells(slot, part);
                    break;
                case Program.FETCH:
                    fetch(slot, inside(slot, part, 0), inside(slot, part, 1));
                    break;
                default:
                    combine(slot, part);
                    break;
            }
        }

        private void reachInside(int slot, int part) {
            int kind = program.kind[part];
            int many = kind == Program.IF ? 1 : program.children[part];
            for (int k = 0; k < many; k++) {
                slots.reach(inside(slot, part, k));
            }
            if (kind == Program.CALL) {
                made[slot] = beginCall(program.number[part], slot, NONE);
            }
        }

        private void workOutArgument(int slot, int argument) {
            int call = slot / Program.MOST_PARTS;
            int maker = makerOf[call];
            if (maker == NONE) {
                slots.settle(slot, argument == 0 ? firstTold : argument == 1 ? secondTold : 0, NONE);
            } else if (cellOf[call] == NONE) {
                slots.follow(slot, inside(maker, partOf(maker), argument));
            } else if (argument == 0) {
                slots.settle(slot, cellOf[call], NONE);
            } else if (argument == 1) {
                slots.follow(slot, maker);
            } else {
                // The first expression of a MAKE is no argument, the place and the array are two.
                slots.follow(slot, inside(maker, partOf(maker), argument - 1));
            }
        }

        private void negate(int slot, int of) {
            if (slots.has(slot, of)) {
                slots.settle(slot, -slots.numberAt(of), NONE);
            }
        }

        private void choose(int slot, int part) {
            int condition = inside(slot, part, 0);
            if (slots.has(slot, condition)) {
                int taken = inside(slot, part, slots.numberAt(condition) != 0 ? 1 : 2);
                slots.reach(taken);
                slots.follow(slot, taken);
            }
        }

        private void makeCells(int slot, int part) {
            int size = inside(slot, part, 0);
            if (!slots.has(slot, size)) {
                return;
            }
            int many = Math.max(0, Math.min(slots.numberAt(size), MOST_CELLS));
            int firstCell = calls;
            for (int i = 0; i < many && !tooMany; i++) {
                beginCall(program.number[part], slot, i);
            }
            cells += many;
            slots.settle(slot, many, firstCell);
        }

        private void fetch(int slot, int from, int index) {
            if (!slots.has(slot, from) || !slots.has(slot, index)) {
                return;
            }
            int cell = slots.numberAt(index);
            boolean isThere = slots.arrayAt(from) != NONE && cell >= 0 && cell < slots.numberAt(from);
            if (isThere) {
                slots.follow(slot, rootOf(slots.arrayAt(from) + cell));
            } else {
                slots.settle(slot, 0, NONE);
            }
        }

        private void combine(int slot, int part) {
            int left = inside(slot, part, 0);
            int right = inside(slot, part, 1);
            if (slots.has(slot, left) && slots.has(slot, right)) {
                int x = slots.numberAt(left);
                int y = slots.numberAt(right);
                slots.settle(slot, combined(program.kind[part], x, y), NONE);
            }
        }

        private static int combined(int sign, int x, int y) {
            switch (sign) {
                case '+':
                    return x + y;
                case '-':
                    return x - y;
                case '*':
                    return x * y;
                case '/':
                    return y == 0 ? 0 : x / y;
                case '%':
                    return y == 0 ? 0 : x % y;
                case '<':
                    return x < y ? 1 : 0;
                case '>':
                    return x > y ? 1 : 0;
                default:
                    return x == y ? 1 : 0;
            }
        }

        private int partOf(int slot) {
            return definitionOf[slot / Program.MOST_PARTS] * Program.MOST_PARTS + slot % Program.MOST_PARTS;
        }

        private int rootOf(int call) {
            return call * Program.MOST_PARTS + program.root[definitionOf[call]] % Program.MOST_PARTS;
        }

        /** The slot of an expression inside a part, in the call that a slot belongs to. */
        private int inside(int slot, int part, int k) {
            int firstOfCall = slot - slot % Program.MOST_PARTS;
            return firstOfCall + program.childOf(part, k) % Program.MOST_PARTS;
        }
    }
}
