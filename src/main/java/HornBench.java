/**
 * A bench for logic clauses: programs and questions are read from a tape, a question is done step
 * by step, by unification and going back, and what its variables are is written on a paper.
 *
 * <p>The machine itself never throws here: every row is looked into behind a test of the index.
 */
public final class HornBench {

    /** Stands for "none" wherever a place, a node, a goal, a clause or a position can be missing. */
    private static final int NONE = -1;

    private static final int MOST_CLAUSES = 40;
    private static final int MOST_ARGUMENTS = 4;
    private static final int MOST_GOALS = 8;
    private static final int MOST_VARIABLES = 8;
    private static final int MOST_TOKENS = 60;
    private static final int MOST_DEPTH = 8;
    private static final int MOST_STEPS = 1000;
    private static final int MOST_OPERATORS = 60;
    private static final int MOST_FED = 2000;
    private static final int MOST_WRITTEN = 600;

    // Kinds of tokens, goals and terms. A symbol of one byte is its own kind, so that the other
    // kinds have to be less than any symbol; 0 is no kind at all.
    private static final int END = 1;
    private static final int BAD = 2;
    private static final int VARIABLE = 3;
    private static final int NUMBER = 4;
    private static final int NAME = 5;
    private static final int TRUE = 6;
    private static final int FAIL = 7;
    private static final int NOT = 8;
    private static final int VAR = 9;
    private static final int IS = 10;
    private static final int MOD = 11;
    private static final int AT_MOST = 12;
    private static final int AT_LEAST = 13;
    private static final int SAME = 14;
    private static final int APART = 15;
    private static final int IF = 16;
    private static final int CUT = '!';
    private static final int UNIFY = '=';
    private static final int LESS = '<';
    private static final int GREATER = '>';

    // Names are kept as numbers: up to 8 bytes, the last one lowest.
    private static final long TRUE_NAME = 0x74727565L;
    private static final long FAIL_NAME = 0x6661696cL;
    private static final long NOT_NAME = 0x6e6f74L;
    private static final long VAR_NAME = 0x766172L;
    private static final long IS_NAME = 0x6973L;
    private static final long MOD_NAME = 0x6d6f64L;
    private static final long EMPTY_NAME = 0x5b5dL;
    private static final long PAIR_NAME = '.';

    private final Tape tape;
    private final Nodes nodes;
    private final Parser parser;
    private final Terms terms;
    private final Matcher matcher;
    private final Question question;
    private final Pen pen;
    private int errorPlace;

    public HornBench() {
        tape = new Tape();
        nodes = new Nodes();
        parser = new Parser(tape, nodes);
        terms = new Terms(nodes);
        matcher = new Matcher(terms);
        question = new Question(nodes, terms, matcher);
        pen = new Pen(terms);
        errorPlace = NONE;
    }

    // ---- programs

    public int feed(int a, int b, int c, int d, int e) throws IllegalStateException {
        if (!tape.hasRoom()) {
            throw new IllegalStateException("the tape is full");
        }
        tape.append(a);
        tape.append(b);
        tape.append(c);
        tape.append(d);
        tape.append(e);
        return tape.length();
    }

    public int trim(int n) throws IllegalArgumentException {
        if (n < 0 || n > tape.length()) {
            throw new IllegalArgumentException("the tape has not so many bytes");
        }
        tape.shorten(n);
        return n;
    }

    public int consult() {
        nodes.forget();
        question.leave();
        return finishReading(parser.readProgram());
    }

    public int add() {
        question.leave();
        return finishReading(parser.readProgram());
    }

    public int drop(int clause) throws IndexOutOfBoundsException {
        if (clause < 0 || clause >= nodes.clauses()) {
            throw new IndexOutOfBoundsException("there is no such clause");
        }
        question.leave();
        nodes.remove(clause);
        return nodes.clauses();
    }

    public int errorAt() {
        return errorPlace;
    }

    public int count(int what) throws IndexOutOfBoundsException {
        switch (what) {
            case 0: return nodes.clauses();
            case 1: return nodes.predicates();
            case 2: return tape.length();
            case 3: return pen.length();
            case 4: return question.variables();
            case 5: return question.goals();
            case 6: return question.steps();
            case 7: return question.solutions();
            case 8: return question.cuts();
            default: throw new IndexOutOfBoundsException("nothing of this kind is counted");
        }
    }

    public int clause(int clause, int what) throws IndexOutOfBoundsException {
        if (clause < 0 || clause >= nodes.clauses() || what < 0 || what > 3) {
            throw new IndexOutOfBoundsException("there is no such clause, or no such count of one");
        }
        int slot = nodes.slot(clause);
        switch (what) {
            case 0: return nodes.arity(slot);
            case 1: return nodes.goals(slot);
            case 2: return nodes.variables(slot);
            default: return nodes.uses(slot);
        }
    }

    private int finishReading(int error) {
        errorPlace = parser.errorPlace();
        tape.shorten(0);
        return error;
    }

    // ---- questions

    public int ask() {
        question.leave();
        int error = parser.readQuestion();
        if (error == 0) {
            question.begin();
        }
        return finishReading(error);
    }

    public int run(int steps) throws IllegalArgumentException, IllegalStateException {
        if (steps < 1 || steps > 500) {
            throw new IllegalArgumentException("1 to 500 steps are done at once");
        }
        if (!question.isThere()) {
            throw new IllegalStateException("there is no question");
        }
        return question.advance(steps);
    }

    public int status() {
        return question.standing();
    }

    public int write(int variable) throws IndexOutOfBoundsException, IllegalStateException {
        if (!question.has(variable)) {
            throw new IndexOutOfBoundsException("there is no such variable");
        }
        if (!pen.compose(Pen.TERM, Terms.CELLS + variable)) {
            throw new IllegalStateException("the paper is too small");
        }
        return pen.length();
    }

    public int writeGoal() throws IllegalStateException {
        if (!question.isThere()) {
            throw new IllegalStateException("there is no question");
        }
        int goal = question.firstGoal();
        if (goal == NONE) {
            pen.wipe();
        } else if (!pen.compose(Pen.GOAL, goal)) {
            throw new IllegalStateException("the paper is too small");
        }
        return pen.length();
    }

    public int byteAt(int k) throws IndexOutOfBoundsException {
        if (k < 0 || k >= pen.length()) {
            throw new IndexOutOfBoundsException("there is no such place on the paper");
        }
        return pen.byteOn(k);
    }

    public int number(int variable) throws IndexOutOfBoundsException, IllegalStateException {
        if (!question.has(variable)) {
            throw new IndexOutOfBoundsException("there is no such variable");
        }
        int term = terms.end(Terms.CELLS + variable);
        if (!terms.isNumber(term)) {
            throw new IllegalStateException("the variable is no number");
        }
        return terms.numberOf(term);
    }

    public boolean isSame(int a, int b) throws IndexOutOfBoundsException {
        if (!question.has(a) || !question.has(b)) {
            throw new IndexOutOfBoundsException("there is no such variable");
        }
        return matcher.match(Terms.CELLS + a, Terms.CELLS + b, false);
    }

    public double stepsEach() {
        int solutions = question.solutions();
        return solutions == 0 ? 0.0 : (double) question.steps() / (double) solutions;
    }

    public long digest() {
        long d = 389;
        for (int what = 0; what <= 8; what++) {
            d = d * 31 + count(what);
        }
        d = d * 31 + status();
        for (int k = 0; k < nodes.clauses(); k++) {
            for (int what = 0; what <= 3; what++) {
                d = d * 31 + clause(k, what);
            }
        }
        for (int k = 0; k < pen.length(); k++) {
            d = d * 31 + pen.byteOn(k);
        }
        return d;
    }

    // ---- rows

    private static int at(int[] row, int k) {
        return k >= 0 && k < row.length ? row[k] : NONE;
    }

    private static void put(int[] row, int k, int value) {
        if (k >= 0 && k < row.length) {
            row[k] = value;
        }
    }

    /** The bytes that are to be read next. */
    private static final class Tape {
        private final byte[] bytes = new byte[MOST_FED];
        private int length;

        int length() {
            return length;
        }

        boolean hasRoom() {
            return length <= MOST_FED - 20;
        }

        void append(int four) {
            for (int shift = 24; shift >= 0; shift -= 8) {
                if (length >= 0 && length < bytes.length) {
                    bytes[length] = (byte) (four >> shift);
                    length++;
                }
            }
        }

        void shorten(int n) {
            length = n;
        }

        /** A byte, 0 to 255, or NONE behind the end: no token goes on with that. */
        int at(int k) {
            return k >= 0 && k < length && k < bytes.length ? bytes[k] & 255 : NONE;
        }
    }

    /**
     * The tokens of the tape. The last one is END or BAD, which the grammar has nowhere, so that
     * nobody asks for what is behind it.
     */
    private static final class Tokens {
        private static final int MOST = MOST_FED + 1;

        private final Tape tape;
        private final int[] kinds = new int[MOST];
        private final int[] starts = new int[MOST];
        private final long[] texts = new long[MOST];
        private int size;

        Tokens(Tape tape) {
            this.tape = tape;
        }

        int kind(int k) {
            return k >= 0 && k < size && k < kinds.length ? kinds[k] : BAD;
        }

        int start(int k) {
            return k >= 0 && k < size && k < starts.length ? starts[k] : NONE;
        }

        /** The name of a word or symbol, or the value of a number. */
        long text(int k) {
            return k >= 0 && k < size && k < texts.length ? texts[k] : 0;
        }

        void read() {
            size = 0;
            int from = 0;
            boolean more = true;
            for (int k = 0; k < MOST && more; k++) {
                from = readToken(behindBlanks(from));
                int kind = kind(size - 1);
                more = kind != END && kind != BAD;
            }
        }

        private int behindBlanks(int from) {
            int k = from;
            while (k < MOST_FED && (tape.at(k) == ' ' || tape.at(k) == '\n')) {
                k++;
            }
            return k;
        }

        /** Keeps the token that begins at a position, and returns the position behind it. */
        private int readToken(int from) {
            int b = tape.at(from);
            if (b == NONE) {
                return keep(END, from, 0, from);
            }
            if (isDigit(b)) {
                return readNumber(from);
            }
            if (isSmall(b)) {
                return readWord(from);
            }
            if (b == '_' || b >= 'A' && b <= 'Z') {
                int behind = behindWord(from + 1);
                int kind = behind - from > 8 ? BAD : VARIABLE;
                return keep(kind, from, nameOf(from, behind), behind);
            }
            return readSymbol(from, b, tape.at(from + 1));
        }

        private int readWord(int from) {
            int behind = behindWord(from);
            long name = nameOf(from, behind);
            return keep(behind - from > 8 ? BAD : kindOfWord(name), from, name, behind);
        }

        private static int kindOfWord(long name) {
            if (name == TRUE_NAME) {
                return TRUE;
            }
            if (name == FAIL_NAME) {
                return FAIL;
            }
            if (name == NOT_NAME) {
                return NOT;
            }
            if (name == VAR_NAME) {
                return VAR;
            }
            if (name == IS_NAME) {
                return IS;
            }
            return name == MOD_NAME ? MOD : NAME;
        }

        private int readNumber(int from) {
            long value = 0;
            int k = from;
            while (k < MOST_FED && isDigit(tape.at(k))) {
                value = value * 10 + (tape.at(k) - '0');
                k++;
            }
            return keep(k - from > 6 ? BAD : NUMBER, from, value, k);
        }

        private int readSymbol(int from, int b, int next) {
            int two = b * 256 + next;
            switch (two) {
                case '=' * 256 + '<': return keep(AT_MOST, from, two, from + 2);
                case '>' * 256 + '=': return keep(AT_LEAST, from, two, from + 2);
                case '=' * 256 + '=': return keep(SAME, from, two, from + 2);
                case '\\' * 256 + '=': return keep(APART, from, two, from + 2);
                case ':' * 256 + '-': return keep(IF, from, two, from + 2);
                default: return keep(isSymbol(b) ? b : BAD, from, b, from + 1);
            }
        }

        private static boolean isSymbol(int b) {
            switch (b) {
                case '(': case ')': case '[': case ']': case ',': case '.': case '|': case '!':
                case '+': case '-': case '*': case '/': case '=': case '<': case '>':
                    return true;
                default:
                    return false;
            }
        }

        private static boolean isSmall(int b) {
            return b >= 'a' && b <= 'z';
        }

        private static boolean isDigit(int b) {
            return b >= '0' && b <= '9';
        }

        private int behindWord(int from) {
            int k = from;
            while (k < MOST_FED && (isSmall(tape.at(k)) || isDigit(tape.at(k)))) {
                k++;
            }
            return k;
        }

        private long nameOf(int from, int behind) {
            long name = 0;
            for (int k = from; k < behind; k++) {
                name = name << 8 | tape.at(k);
            }
            return name;
        }

        private int keep(int kind, int start, long text, int behind) {
            if (size >= 0 && size < kinds.length && size < starts.length && size < texts.length) {
                kinds[size] = kind;
                starts[size] = start;
                texts[size] = text;
                size++;
            }
            return behind;
        }
    }

    /**
     * Reads the tape by the grammar, and makes the nodes of its clauses or its question. Behind a
     * refused token the kind is 0, which fits nothing, so that everything that is open comes to
     * its end; what is one too many is only noted, for a refused token behind it counts more.
     */
    private static final class Parser {
        private final Tokens tokens;
        private final Nodes nodes;
        private final long[] names = new long[MOST_VARIABLES];
        private int at;
        private int kind;
        private boolean refused;
        private int excess;
        private int taken;
        private int depth;
        private int goals;
        private int variables;

        Parser(Tape tape, Nodes nodes) {
            this.tokens = new Tokens(tape);
            this.nodes = nodes;
        }

        /** Reads clauses, which come behind those that are there, and returns the error. */
        int readProgram() {
            start();
            int clauses = nodes.clauses();
            for (int k = 0; k < MOST_FED && !refused && (k == 0 || kind != END); k++) {
                readClause(clauses);
                clauses++;
            }
            if (error() == 0) {
                nodes.keep(clauses);
            }
            return error();
        }

        /** Reads a question and returns the error. */
        int readQuestion() {
            start();
            begin(Nodes.QUESTION);
            int first = readGoals();
            expect('.');
            if (kind != END) {
                refuse();
            }
            nodes.finish(NONE, first, goals, variables);
            return error();
        }

        int errorPlace() {
            if (refused) {
                return tokens.start(at);
            }
            return excess == NONE ? NONE : tokens.start(excess);
        }

        private int error() {
            if (refused) {
                return 1;
            }
            return excess == NONE ? 0 : 2;
        }

        private void start() {
            tokens.read();
            at = 0;
            kind = tokens.kind(at);
            refused = false;
            excess = NONE;
        }

        private void begin(int slot) {
            taken = 0;
            depth = 0;
            goals = 0;
            variables = 0;
            nodes.begin(slot);
        }

        private void readClause(int number) {
            if (number >= MOST_CLAUSES) {
                tooMany();
            }
            begin(nodes.slot(Math.min(number, MOST_CLAUSES)));
            if (kind != NAME) {
                refuse();
            }
            int head = readSimple();
            int body = NONE;
            if (kind == IF) {
                take();
                body = readGoals();
            }
            expect('.');
            nodes.finish(head, body, goals, variables);
        }

        private int readGoals() {
            int first = readGoal();
            int last = first;
            for (int k = 0; k < MOST_TOKENS && kind == ','; k++) {
                take();
                int goal = readGoal();
                nodes.chain(last, goal);
                last = goal;
            }
            return first;
        }

        private int readGoal() {
            goals++;
            if (goals > MOST_GOALS) {
                tooMany();
            }
            switch (kind) {
                case CUT: case TRUE: case FAIL: return readPlainGoal();
                case NOT: return readNot();
                case VAR: return readVar();
                default: return readRelation();
            }
        }

        private int readPlainGoal() {
            int goal = nodes.make(kind, 0, tokens.text(at), NONE);
            take();
            return goal;
        }

        private int readNot() {
            take();
            open('(');
            int first = readGoals();
            close(')');
            return nodes.make(NOT, 0, NOT_NAME, first);
        }

        private int readVar() {
            take();
            open('(');
            int term = readTerm();
            close(')');
            return nodes.make(VAR, 1, VAR_NAME, term);
        }

        private int readRelation() {
            boolean word = kind == NAME;
            int left = readTerm();
            int relation = kind;
            switch (relation) {
                case UNIFY: case APART: case SAME: case LESS: case GREATER:
                case AT_MOST: case AT_LEAST: case IS:
                    long name = tokens.text(at);
                    take();
                    int right = readTerm();
                    nodes.chain(left, right);
                    return nodes.make(relation, 2, name, left);
                default:
                    // A term alone is a goal only if it is a name and not in ( and ).
                    if (!word || nodes.isOperatorHere(left)) {
                        refuse();
                    }
                    return left;
            }
        }

        private int readTerm() {
            int left = readProduct();
            for (int k = 0; k < MOST_TOKENS && (kind == '+' || kind == '-'); k++) {
                long name = tokens.text(at);
                take();
                int right = readProduct();
                nodes.chain(left, right);
                left = nodes.make(NAME, 2, name, left);
            }
            return left;
        }

        private int readProduct() {
            int left = readSimple();
            for (int k = 0; k < MOST_TOKENS && (kind == '*' || kind == '/' || kind == MOD); k++) {
                long name = tokens.text(at);
                take();
                int right = readSimple();
                nodes.chain(left, right);
                left = nodes.make(NAME, 2, name, left);
            }
            return left;
        }

        private int readSimple() {
            switch (kind) {
                case VARIABLE: return readVariable();
                case NUMBER: return readNumber(1);
                case '-':
                    take();
                    return readNumber(-1);
                case NAME: return readName();
                case '[': return readList();
                case '(':
                    open('(');
                    int term = readTerm();
                    close(')');
                    return term;
                default:
                    refuse();
                    return NONE;
            }
        }

        private int readVariable() {
            // Each _ is one by itself: it is kept under a name that no variable has.
            long name = tokens.text(at) == '_' ? 0 : tokens.text(at);
            int number = NONE;
            for (int k = 0; k < variables && k < names.length && name != 0; k++) {
                if (names[k] == name) {
                    number = k;
                }
            }
            if (number == NONE) {
                number = variables;
                if (number >= 0 && number < names.length) {
                    names[number] = name;
                    variables++;
                } else {
                    tooMany();
                }
            }
            take();
            return nodes.make(VARIABLE, number, 0, NONE);
        }

        private int readNumber(int sign) {
            if (kind != NUMBER) {
                refuse();
            }
            int value = sign * (int) tokens.text(at);
            take();
            return nodes.make(NUMBER, value, 0, NONE);
        }

        private int readName() {
            long name = tokens.text(at);
            take();
            if (kind != '(') {
                return nodes.make(NAME, 0, name, NONE);
            }
            open('(');
            int first = readTerm();
            int last = first;
            int arity = 1;
            for (int k = 0; k < MOST_TOKENS && kind == ','; k++) {
                take();
                arity++;
                if (arity > MOST_ARGUMENTS) {
                    tooMany();
                }
                int argument = readTerm();
                nodes.chain(last, argument);
                last = argument;
            }
            close(')');
            return nodes.make(NAME, arity, name, first);
        }

        private int readList() {
            open('[');
            int last = NONE;
            if (kind != ']') {
                last = readTerm();
                for (int k = 0; k < MOST_TOKENS && kind == ','; k++) {
                    take();
                    int element = readTerm();
                    // The pairs are made from the last one on, so the chain goes backwards.
                    nodes.chain(element, last);
                    last = element;
                }
            }
            int tail = NONE;
            if (kind == '|' && last != NONE) {
                take();
                tail = readTerm();
            } else {
                tail = nodes.make(NAME, 0, EMPTY_NAME, NONE);
            }
            close(']');
            return makePairs(last, tail);
        }

        private int makePairs(int last, int tail) {
            int list = tail;
            int element = last;
            for (int k = 0; k < MOST_TOKENS && element != NONE; k++) {
                int previous = nodes.chained(element);
                nodes.chain(element, list);
                list = nodes.make(NAME, 2, PAIR_NAME, element);
                element = previous;
            }
            return list;
        }

        private void open(int bracket) {
            if (kind != bracket || depth >= MOST_DEPTH) {
                refuse();
            } else {
                depth++;
                take();
            }
        }

        private void close(int bracket) {
            if (kind != bracket) {
                refuse();
            } else {
                depth--;
                take();
            }
        }

        private void expect(int symbol) {
            if (kind != symbol) {
                refuse();
            } else {
                take();
            }
        }

        private void take() {
            if (refused || taken >= MOST_TOKENS) {
                refused = true;
                kind = 0;
            } else {
                taken++;
                at++;
                kind = at >= 0 && at < tokens.kinds.length ? tokens.kinds[at] : BAD;
            }
        }

        private void refuse() {
            refused = true;
            kind = 0;
        }

        private void tooMany() {
            if (excess == NONE) {
                excess = at;
            }
        }
    }

    /**
     * The clauses and the question as they were read: trees of nodes, in slots of so many nodes
     * each. Within a slot a node stands behind its arguments, and all that is in it stands in one
     * piece, from froms[] on. A node is told by its place in the slot where it is made, and by its
     * place in the rows elsewhere.
     */
    private static final class Nodes {
        /** More than the nodes that the tokens of a clause can make: at most one each. */
        static final int EACH = 64;
        static final int QUESTION = MOST_CLAUSES;
        private static final int SLOTS = MOST_CLAUSES + 1;
        private static final int ROW = SLOTS * EACH;

        private final int[] kinds = new int[ROW];
        /** A number's value, a variable's number, a name's number of arguments. */
        private final int[] values = new int[ROW];
        private final long[] names = new long[ROW];
        /** The first argument, or the first goal in a not. */
        private final int[] firsts = new int[ROW];
        /** The next argument of the same node, or the goal behind this one. */
        private final int[] nexts = new int[ROW];
        private final int[] froms = new int[ROW];

        /** The slots of the clauses, in their order; behind these the free ones; QUESTION last. */
        private final int[] order = new int[SLOTS];
        private final int[] heads = new int[SLOTS];
        private final int[] bodies = new int[SLOTS];
        private final int[] goals = new int[SLOTS];
        private final int[] variables = new int[SLOTS];
        private final int[] uses = new int[SLOTS];
        private int clauses;
        private int slot;
        private int size;

        Nodes() {
            for (int k = 0; k < order.length; k++) {
                order[k] = k;
            }
        }

        // making

        void forget() {
            clauses = 0;
        }

        void keep(int count) {
            clauses = count;
        }

        void remove(int clause) {
            int free = at(order, clause);
            for (int k = clause; k < MOST_CLAUSES - 1; k++) {
                put(order, k, at(order, k + 1));
            }
            put(order, MOST_CLAUSES - 1, free);
            clauses--;
        }

        void begin(int newSlot) {
            slot = newSlot;
            size = 0;
        }

        /** Makes a node, whose arguments are those that are chained to the first one. */
        int make(int kind, int value, long name, int first) {
            int n = slot * EACH + size;
            if (size >= EACH || n < 0 || n >= ROW) {
                return NONE;
            }
            kinds[n] = kind;
            values[n] = value;
            names[n] = name;
            firsts[n] = first;
            nexts[n] = NONE;
            int f = slot * EACH + first;
            froms[n] = first >= 0 && f >= 0 && f < ROW ? froms[f] : size;
            size++;
            return size - 1;
        }

        void chain(int before, int behind) {
            int n = slot * EACH + before;
            if (before != NONE && n >= 0 && n < nexts.length) {
                nexts[n] = behind;
            }
        }

        int chained(int before) {
            int n = slot * EACH + before;
            return n >= 0 && n < nexts.length ? nexts[n] : NONE;
        }

        boolean isOperatorHere(int node) {
            return isOperator(slot * EACH + node);
        }

        void finish(int head, int body, int goalCount, int variableCount) {
            put(heads, slot, head);
            put(bodies, slot, body);
            put(goals, slot, goalCount);
            put(variables, slot, variableCount);
            put(uses, slot, 0);
        }

        // clauses

        int clauses() {
            return clauses;
        }

        int slot(int clause) {
            return at(order, clause);
        }

        int head(int ofSlot) {
            return at(heads, ofSlot);
        }

        int body(int ofSlot) {
            return at(bodies, ofSlot);
        }

        int arity(int ofSlot) {
            return at(values, ofSlot * EACH + at(heads, ofSlot));
        }

        int goals(int ofSlot) {
            return at(goals, ofSlot);
        }

        int variables(int ofSlot) {
            return at(variables, ofSlot);
        }

        int uses(int ofSlot) {
            return at(uses, ofSlot);
        }

        void use(int ofSlot) {
            put(uses, ofSlot, at(uses, ofSlot) + 1);
        }

        int predicates() {
            int count = 0;
            for (int k = 0; k < clauses; k++) {
                int ofSlot = at(order, k);
                if (clauseFor(ofSlot * EACH + at(heads, ofSlot), 0) == k) {
                    count++;
                }
            }
            return count;
        }

        /** The first clause, from one on, whose head has the predicate of a node. */
        int clauseFor(int node, int from) {
            for (int k = Math.max(from, 0); k < clauses && k < order.length; k++) {
                int ofSlot = order[k];
                int head = ofSlot >= 0 && ofSlot < heads.length ? heads[ofSlot] : NONE;
                if (isAlike(node, ofSlot * EACH + head)) {
                    return k;
                }
            }
            return NONE;
        }

        // nodes

        int kind(int n) {
            return n >= 0 && n < kinds.length ? kinds[n] : 0;
        }

        int value(int n) {
            return n >= 0 && n < values.length ? values[n] : 0;
        }

        long name(int n) {
            return n >= 0 && n < names.length ? names[n] : 0;
        }

        int first(int n) {
            return n >= 0 && n < firsts.length ? firsts[n] : NONE;
        }

        int next(int n) {
            return n >= 0 && n < nexts.length ? nexts[n] : NONE;
        }

        int from(int n) {
            return n >= 0 && n < froms.length ? froms[n] : NONE;
        }

        /** Whether two names are the same, with the same number of arguments. */
        boolean isAlike(int n, int m) {
            return n >= 0 && n < ROW && m >= 0 && m < ROW
                && kinds[n] == NAME && kinds[m] == NAME
                && names[n] == names[m] && values[n] == values[m];
        }

        boolean isOperator(int n) {
            if (n < 0 || n >= ROW || kinds[n] != NAME) {
                return false;
            }
            long name = names[n];
            return name == '+' || name == '-' || name == '*' || name == '/' || name == MOD_NAME;
        }
    }

    /** A set of variables that is emptied at the price of what is in it. */
    private static final class Cells {
        private final boolean[] isIn = new boolean[Terms.MOST_CELLS];
        private final int[] items = new int[Terms.MOST_CELLS];
        private int size;

        int size() {
            return size;
        }

        int item(int k) {
            return k >= 0 && k < size && k < items.length ? items[k] : NONE;
        }

        boolean holds(int cell) {
            return cell >= 0 && cell < isIn.length && isIn[cell];
        }

        void include(int cell) {
            if (cell >= 0 && cell < isIn.length && !isIn[cell] && size >= 0 && size < items.length) {
                isIn[cell] = true;
                items[size] = cell;
                size++;
            }
        }

        void empty() {
            for (int k = 0; k < size && k < items.length; k++) {
                int cell = items[k];
                if (cell >= 0 && cell < isIn.length) {
                    isIn[cell] = false;
                }
            }
            size = 0;
        }
    }

    /**
     * The terms of a question. Nothing is copied: the clause that is used in step s is frame s,
     * with variables of its own, and the question is frame 0. A term is told by one number: its
     * place (a node in a frame), or the result of an is, by its step, or a variable, by its cell.
     */
    private static final class Terms {
        /** The question, each step, and one for trying the clauses of a choice behind the last. */
        static final int FRAMES = MOST_STEPS + 2;
        static final int MOST_CELLS = FRAMES * MOST_VARIABLES;
        static final int RESULTS = FRAMES * Nodes.EACH;
        static final int CELLS = RESULTS + FRAMES;

        private final Nodes nodes;
        private final int[] slots = new int[FRAMES];
        private final int[] results = new int[FRAMES];
        private final int[] bindings = new int[MOST_CELLS];
        private final int[] trail = new int[MOST_CELLS];
        private int trailed;
        private final Cells seen = new Cells();
        /** The frame that was made last. */
        private int newest;
        /** Whether a variable of an older frame was bound since, perhaps to a term of the newest. */
        private boolean isReached;

        Terms(Nodes nodes) {
            this.nodes = nodes;
        }

        void begin() {
            trailed = 0;
            open(0, Nodes.QUESTION);
        }

        /** Makes a frame, with variables that are not bound. */
        void open(int frame, int slot) {
            put(slots, frame, slot);
            newest = frame;
            isReached = false;
            for (int k = 0; k < MOST_VARIABLES; k++) {
                put(bindings, frame * MOST_VARIABLES + k, NONE);
            }
        }

        int head(int frame) {
            return frame * Nodes.EACH + nodes.head(at(slots, frame));
        }

        /** The first goal of a frame's body, or NONE. */
        int body(int frame) {
            int local = nodes.body(at(slots, frame));
            return local == NONE ? NONE : frame * Nodes.EACH + local;
        }

        int node(int place) {
            int frame = place / Nodes.EACH;
            if (place < 0 || place >= RESULTS || frame >= slots.length) {
                return NONE;
            }
            return slots[frame] * Nodes.EACH + place % Nodes.EACH;
        }

        int kind(int place) {
            return nodes.kind(node(place));
        }

        long name(int place) {
            return nodes.name(node(place));
        }

        boolean isOperator(int place) {
            return nodes.isOperator(node(place));
        }

        boolean isAlike(int a, int b) {
            return nodes.isAlike(node(a), node(b));
        }

        int first(int place) {
            int local = nodes.first(node(place));
            return local == NONE ? NONE : place - place % Nodes.EACH + local;
        }

        int next(int place) {
            int local = nodes.next(node(place));
            return local == NONE ? NONE : place - place % Nodes.EACH + local;
        }

        /** The cell of a variable's place, or NONE for the places of all other terms. */
        int cell(int place) {
            int node = node(place);
            if (nodes.kind(node) != VARIABLE) {
                return NONE;
            }
            return place / Nodes.EACH * MOST_VARIABLES + nodes.value(node);
        }

        /** What a term is in the end: itself, or what is bound to it, or a free variable. */
        int end(int term) {
            int last = term;
            if (term < CELLS) {
                int node = node(term);
                if (nodes.kind(node) != VARIABLE) {
                    return term;
                }
                last = CELLS + term / Nodes.EACH * MOST_VARIABLES + nodes.value(node);
            }
            for (int k = 0; k < MOST_CELLS && last >= CELLS; k++) {
                int cell = last - CELLS;
                if (cell >= bindings.length || bindings[cell] == NONE) {
                    return last;
                }
                last = bindings[cell];
            }
            return last;
        }

        /** Of a term at its end. */
        boolean isFree(int term) {
            return term >= CELLS;
        }

        /** Of a term at its end. */
        boolean isNumber(int term) {
            return term >= RESULTS && term < CELLS || nodes.kind(node(term)) == NUMBER;
        }

        int numberOf(int term) {
            int step = term - RESULTS;
            return step >= 0 && step < results.length ? results[step] : nodes.value(node(term));
        }

        int result(int step, int value) {
            put(results, step, value);
            return RESULTS + step;
        }

        // bindings

        void bind(int variable, int term) {
            int cell = variable - CELLS;
            if (cell >= 0 && cell < bindings.length && trailed >= 0 && trailed < trail.length) {
                bindings[cell] = term;
                trail[trailed] = cell;
                trailed++;
                isReached = isReached || cell / MOST_VARIABLES != newest;
            }
        }

        int trailed() {
            return trailed;
        }

        /** Takes all bindings back that were made since so many were trailed. */
        void undo(int mark) {
            int left = Math.max(mark, 0);
            for (int k = trailed - 1; k >= left; k--) {
                put(bindings, at(trail, k), NONE);
            }
            trailed = Math.min(trailed, left);
        }

        /**
         * Whether a free variable stands in a term. Each variable that is met is followed once,
         * for a term can be told by few variables and be very large when it is written out.
         */
        boolean standsIn(int variable, int term) {
            // No way leads from the older frames into the newest one as long as none was bound.
            if (!isReached && isOfNewest(variable) && !isOfNewest(term)) {
                return false;
            }
            boolean found = false;
            int part = term;
            for (int k = 0; k <= MOST_CELLS && k <= seen.size() && !found; k++) {
                if (part >= CELLS) {
                    seen.include(part - CELLS);
                } else if (part >= 0 && part < RESULTS) {
                    int last = node(part);
                    int cells = part / Nodes.EACH * MOST_VARIABLES;
                    for (int n = last - part % Nodes.EACH + nodes.from(last); n <= last; n++) {
                        if (nodes.kind(n) == VARIABLE) {
                            seen.include(cells + nodes.value(n));
                        }
                    }
                }
                found = seen.holds(variable - CELLS);
                part = at(bindings, seen.item(k));
            }
            seen.empty();
            return found;
        }

        private boolean isOfNewest(int term) {
            int frame = term >= CELLS ? (term - CELLS) / MOST_VARIABLES : term / Nodes.EACH;
            return frame == newest;
        }
    }

    /** Unifies terms, and tells whether they are the same. */
    private static final class Matcher {
        /** A clause has fewer nodes with arguments than this: they take two tokens each. */
        private static final int MOST_WITH_ARGUMENTS = 32;

        private final Terms terms;
        /**
         * The places that were found to be the same in this call: 1 more than the other one, or 0.
         * What is joined is not looked at again, though it may be met very often.
         */
        private final int[] links = new int[Terms.RESULTS];
        private final int[] joined = new int[Terms.FRAMES * MOST_WITH_ARGUMENTS];
        private int size;

        Matcher(Terms terms) {
            this.terms = terms;
        }

        /**
         * Whether two terms can be unified, which binds their variables, or, if nothing is to be
         * bound, whether they are the same. If they can't, nothing is bound.
         */
        boolean match(int a, int b, boolean binds) {
            int mark = terms.trailed();
            boolean good = join(a, b, binds);
            for (int k = 0; k < joined.length && k < size && good; k++) {
                int place = at(joined, k);
                int p = terms.first(place);
                int q = terms.first(at(links, place) - 1);
                for (int j = 0; j < MOST_ARGUMENTS && good && p != NONE && q != NONE; j++) {
                    good = join(p, q, binds);
                    p = terms.next(p);
                    q = terms.next(q);
                }
            }
            for (int k = 0; k < joined.length && k < size; k++) {
                put(links, at(joined, k), 0);
            }
            size = 0;
            if (!good) {
                terms.undo(mark);
            }
            return good;
        }

        /** Makes two terms one, but for their arguments: these are left to be joined later. */
        private boolean join(int a, int b, boolean binds) {
            int x = root(terms.end(a));
            int y = root(terms.end(b));
            if (x == y) {
                return true;
            }
            // The newer variable is bound to the older one, so that ways to the end stay short.
            int high = Math.max(x, y);
            int low = Math.min(x, y);
            if (terms.isFree(high)) {
                if (!binds || terms.standsIn(high, low)) {
                    return false;
                }
                terms.bind(high, low);
                return true;
            }
            if (terms.isNumber(x) || terms.isNumber(y)) {
                return terms.isNumber(x) && terms.isNumber(y)
                    && terms.numberOf(x) == terms.numberOf(y);
            }
            if (!terms.isAlike(x, y)) {
                return false;
            }
            if (terms.first(x) != NONE) {
                put(links, x, y + 1);
                put(joined, size, x);
                size++;
            }
            return true;
        }

        private int root(int term) {
            int last = term;
            for (int k = 0; k < Terms.RESULTS && last >= 0 && last < links.length; k++) {
                int next = links[last] - 1;
                if (next < 0 || next >= links.length) {
                    return last;
                }
                if (links[next] != 0) {
                    links[last] = links[next];
                }
                last = next;
            }
            return last;
        }
    }

    /** Finds the values of expressions. */
    private static final class Evaluator {
        private final Terms terms;
        /** The variables whose values and heights are known, for they may be met very often. */
        private final Cells known = new Cells();
        private final int[] values = new int[Terms.MOST_CELLS];
        private final int[] heights = new int[Terms.MOST_CELLS];
        private int value;
        /** How many operators stand one within the other in what was looked at last. */
        private int height;

        Evaluator(Terms terms) {
            this.terms = terms;
        }

        /** Whether a term has a value, which then is value(). */
        boolean evaluate(int term) {
            boolean good = find(term, 0);
            known.empty();
            return good;
        }

        int value() {
            return value;
        }

        private boolean find(int term, int around) {
            int cell = terms.cell(term);
            if (known.holds(cell)) {
                value = at(values, cell);
                height = at(heights, cell);
                return around + height <= MOST_OPERATORS;
            }
            boolean good = compute(terms.end(term), around);
            if (good && cell != NONE) {
                put(values, cell, value);
                put(heights, cell, height);
                known.include(cell);
            }
            return good;
        }

        private boolean compute(int term, int around) {
            if (terms.isNumber(term)) {
                value = terms.numberOf(term);
                height = 0;
                return true;
            }
            if (!terms.isOperator(term) || around >= MOST_OPERATORS) {
                return false;
            }
            int first = terms.first(term);
            if (!find(first, around + 1)) {
                return false;
            }
            int left = value;
            int leftHeight = height;
            if (!find(terms.next(first), around + 1)) {
                return false;
            }
            height = 1 + Math.max(leftHeight, height);
            return apply(terms.name(term), left, value);
        }

        private boolean apply(long operator, int left, int right) {
            if (operator == '+') {
                value = left + right;
                return true;
            }
            if (operator == '-') {
                value = left - right;
                return true;
            }
            if (operator == '*') {
                value = left * right;
                return true;
            }
            if (right == 0) {
                return false;
            }
            value = operator == '/' ? left / right : left % right;
            return true;
        }
    }

    /** The question, its row of goals, and its choices. */
    private static final class Question {
        private static final int ABSENT = -1;
        private static final int GOING = 0;
        private static final int SOLVED = 1;
        private static final int OVER = 2;
        private static final int WRONG = 3;
        private static final int STOPPED = 4;

        /** In the place of a goal: the mark behind the goals of a not, or the choice of a not. */
        private static final int MARK = -2;
        /** A step puts the goals of a body into the row, or those in a not with their mark. */
        private static final int MOST_LINKS = (MOST_STEPS + 1) * MOST_GOALS;

        private final Nodes nodes;
        private final Terms terms;
        private final Matcher matcher;
        private final Evaluator evaluator;

        /** The row is a chain of links, which choices share: no link is ever changed. */
        private final int[] linkGoals = new int[MOST_LINKS];
        private final int[] linkNexts = new int[MOST_LINKS];
        /** How many choices a ! there leaves; for a mark, those below that of its not. */
        private final int[] linkCuts = new int[MOST_LINKS];
        private int links;
        private int row;

        private final int[] choiceGoals = new int[MOST_STEPS];
        private final int[] choiceClauses = new int[MOST_STEPS];
        private final int[] choiceRows = new int[MOST_STEPS];
        private final int[] choiceTrails = new int[MOST_STEPS];
        private int choices;

        private int state;
        /** Whether the next step goes on with the latest choice. */
        private boolean again;
        private int steps;
        private int solutions;
        private int cuts;

        Question(Nodes nodes, Terms terms, Matcher matcher) {
            this.nodes = nodes;
            this.terms = terms;
            this.matcher = matcher;
            this.evaluator = new Evaluator(terms);
            this.state = ABSENT;
            this.row = NONE;
        }

        void begin() {
            terms.begin();
            links = 0;
            choices = 0;
            again = false;
            steps = 0;
            solutions = 0;
            cuts = 0;
            state = GOING;
            row = chain(terms.body(0), 0, NONE);
        }

        void leave() {
            state = ABSENT;
            row = NONE;
        }

        boolean isThere() {
            return state != ABSENT;
        }

        boolean has(int variable) {
            return variable >= 0 && variable < variables();
        }

        int variables() {
            return isThere() ? nodes.variables(Nodes.QUESTION) : 0;
        }

        int goals() {
            int count = 0;
            int link = row;
            for (int k = 0; k < MOST_LINKS && link != NONE; k++) {
                if (at(linkGoals, link) != MARK) {
                    count++;
                }
                link = at(linkNexts, link);
            }
            return count;
        }

        int steps() {
            return isThere() ? steps : 0;
        }

        int solutions() {
            return isThere() ? solutions : 0;
        }

        int cuts() {
            return isThere() ? cuts : 0;
        }

        int standing() {
            return state == GOING && steps >= MOST_STEPS ? STOPPED : state;
        }

        /** The goal that the next step does, or NONE if it goes on with a choice or there is none. */
        int firstGoal() {
            return again || row == NONE ? NONE : at(linkGoals, row);
        }

        int advance(int most) {
            int before = steps;
            if (state == SOLVED) {
                state = GOING;
                settle(false);
            }
            for (int k = 0; k < most && state == GOING && steps < MOST_STEPS; k++) {
                steps++;
                settle(again ? stepAgain() : step());
            }
            return steps - before;
        }

        /** Does what takes no step, behind a goal that was done or failed. */
        private void settle(boolean done) {
            boolean failed = !done;
            for (int k = 0; k <= MOST_STEPS && (failed || isAtMark()); k++) {
                if (!failed) {
                    choices = at(linkCuts, row);
                }
                goBack();
                failed = false;
            }
            if (state == GOING && !again && row == NONE) {
                state = SOLVED;
                solutions++;
            }
        }

        private boolean isAtMark() {
            return !again && row != NONE && at(linkGoals, row) == MARK;
        }

        /** Goes back to the latest choice that can go on, or to the end of the question. */
        private void goBack() {
            for (int k = 0; k < MOST_STEPS && choices > 0; k++) {
                int top = choices - 1;
                int goal = at(choiceGoals, top);
                terms.undo(at(choiceTrails, top));
                row = at(choiceRows, top);
                if (goal == MARK) {
                    choices = top;
                    return;
                }
                int node = terms.node(goal);
                int clause = at(choiceClauses, top);
                for (int j = 0; j < MOST_CLAUSES && clause != NONE; j++) {
                    terms.open(steps + 1, nodes.slot(clause));
                    again = matcher.match(goal, terms.head(steps + 1), true);
                    terms.undo(at(choiceTrails, top));
                    if (again) {
                        put(choiceClauses, top, clause);
                        return;
                    }
                    clause = nodes.clauseFor(node, clause + 1);
                }
                choices = top;
            }
            terms.undo(0);
            row = NONE;
            state = OVER;
        }

        /** The latest choice is taken away first; it is left anew if it still has clauses. */
        private boolean stepAgain() {
            choices--;
            again = false;
            return useClause(at(choiceGoals, choices), at(choiceClauses, choices));
        }

        private boolean step() {
            int link = row;
            int goal = at(linkGoals, link);
            row = at(linkNexts, link);
            int first = terms.first(goal);
            int kind = terms.kind(goal);
            switch (kind) {
                case NAME: return useClause(goal, nodes.clauseFor(terms.node(goal), 0));
                case TRUE: return true;
                case CUT:
                    cuts++;
                    choices = at(linkCuts, link);
                    return true;
                case NOT:
                    leaveChoice(MARK, NONE, terms.trailed());
                    row = chain(first, choices, link(MARK, choices - 1, row));
                    return true;
                case VAR: return terms.isFree(terms.end(first));
                case UNIFY: return matcher.match(first, terms.next(first), true);
                // What this binds is taken back at once, for then the goal fails.
                case APART: return !matcher.match(first, terms.next(first), true);
                case SAME: return matcher.match(first, terms.next(first), false);
                case IS: return assign(first, terms.next(first));
                case LESS: case GREATER: case AT_MOST: case AT_LEAST:
                    return compare(kind, first, terms.next(first));
                default: return false;
            }
        }

        /** Uses the first clause, from one on, whose head can be unified with a goal. */
        private boolean useClause(int goal, int from) {
            int node = terms.node(goal);
            int mark = terms.trailed();
            int clause = from;
            for (int k = 0; k < MOST_CLAUSES && clause != NONE; k++) {
                int slot = nodes.slot(clause);
                int other = nodes.clauseFor(node, clause + 1);
                terms.open(steps, slot);
                if (matcher.match(goal, terms.head(steps), true)) {
                    int below = choices;
                    if (other != NONE) {
                        leaveChoice(goal, other, mark);
                    }
                    row = chain(terms.body(steps), below, row);
                    nodes.use(slot);
                    return true;
                }
                clause = other;
            }
            return false;
        }

        private boolean assign(int term, int expression) {
            if (!evaluator.evaluate(expression)) {
                return stopByError();
            }
            return matcher.match(term, terms.result(steps, evaluator.value()), true);
        }

        private boolean compare(int relation, int a, int b) {
            if (!evaluator.evaluate(a)) {
                return stopByError();
            }
            int left = evaluator.value();
            if (!evaluator.evaluate(b)) {
                return stopByError();
            }
            int right = evaluator.value();
            switch (relation) {
                case LESS: return left < right;
                case GREATER: return left > right;
                case AT_MOST: return left <= right;
                default: return left >= right;
            }
        }

        /** Answers that nothing failed, since behind an error nothing is gone back to. */
        private boolean stopByError() {
            state = WRONG;
            row = NONE;
            return true;
        }

        private void leaveChoice(int goal, int clause, int mark) {
            put(choiceGoals, choices, goal);
            put(choiceClauses, choices, clause);
            put(choiceRows, choices, row);
            put(choiceTrails, choices, mark);
            choices++;
        }

        /** Puts a goal, and those that are chained to it, before the rest of a row. */
        private int chain(int goal, int cut, int rest) {
            int begin = goal == NONE ? rest : links;
            int place = goal;
            for (int k = 0; k < MOST_GOALS && place != NONE; k++) {
                int next = terms.next(place);
                link(place, cut, next == NONE ? rest : links + 1);
                place = next;
            }
            return begin;
        }

        private int link(int goal, int cut, int next) {
            put(linkGoals, links, goal);
            put(linkCuts, links, cut);
            put(linkNexts, links, next);
            links++;
            return links - 1;
        }
    }

    /** Writes terms and goals on the paper. */
    private static final class Pen {
        // What is still to be written: an item is one of these kinds and a term, goal or byte.
        private static final int BYTE = 0;
        private static final int TERM = 1;
        private static final int OPERAND = 2;
        private static final int ARGUMENTS = 3;
        private static final int TAIL = 4;
        private static final int GOAL = 5;
        private static final int GOALS = 6;
        private static final int KINDS = 8;
        /** Far more than the items of a full paper: an item without a byte is one of few in a row. */
        private static final int MOST_ITEMS = 1000000;
        /** Of a 32-bit number. */
        private static final int MOST_DIGITS = 10;

        private final Terms terms;
        private final byte[] paper = new byte[MOST_WRITTEN];
        private int length;
        private final byte[] draft = new byte[MOST_WRITTEN];
        private int drafted;
        private final int[] items = new int[MOST_WRITTEN];
        private int open;
        /** The variables that were met, in their order. */
        private final int[] met = new int[MOST_WRITTEN];
        private int metSize;
        private boolean full;

        Pen(Terms terms) {
            this.terms = terms;
        }

        int length() {
            return length;
        }

        int byteOn(int k) {
            return k >= 0 && k < length && k < paper.length ? paper[k] : 0;
        }

        void wipe() {
            length = 0;
        }

        /** Writes a term or goal, or leaves the paper as it is if that would be too long. */
        boolean compose(int kind, int content) {
            drafted = 0;
            open = 0;
            metSize = 0;
            full = false;
            push(kind, content);
            for (int k = 0; k < MOST_ITEMS && open > 0 && !full; k++) {
                open--;
                int item = at(items, open);
                writeItem(item % KINDS, item / KINDS);
            }
            if (full || open > 0) {
                return false;
            }
            for (int k = 0; k < drafted && k < paper.length && k < draft.length; k++) {
                paper[k] = draft[k];
            }
            length = drafted;
            return true;
        }

        private void writeItem(int kind, int content) {
            switch (kind) {
                case TERM:
                    writeTerm(terms.end(content));
                    break;
                case OPERAND:
                    writeOperand(terms.end(content));
                    break;
                case ARGUMENTS:
                    writeChain(TERM, ARGUMENTS, content);
                    break;
                case TAIL:
                    writeTail(terms.end(content));
                    break;
                case GOAL:
                    writeOneGoal(content);
                    break;
                case GOALS:
                    writeChain(GOAL, GOALS, content);
                    break;
                default:
                    writeByte(content);
                    break;
            }
        }

        private void writeTerm(int term) {
            if (terms.isFree(term)) {
                writeByte('_');
                writeDigits(numberOfFree(term));
            } else if (terms.isNumber(term)) {
                writeDigits(terms.numberOf(term));
            } else {
                writeNamed(term);
            }
        }

        private void writeNamed(int term) {
            long name = terms.name(term);
            int first = terms.first(term);
            if (first == NONE) {
                writeName(name);
            } else if (name == PAIR_NAME) {
                push(TAIL, terms.next(first));
                push(TERM, first);
                push(BYTE, '[');
            } else if (terms.isOperator(term)) {
                writeBetween(OPERAND, first, name, name == MOD_NAME);
            } else {
                writeName(name);
                writeByte('(');
                push(BYTE, ')');
                push(ARGUMENTS, first);
            }
        }

        private void writeOperand(int term) {
            if (terms.isOperator(term)) {
                push(BYTE, ')');
                push(TERM, term);
                push(BYTE, '(');
            } else {
                push(TERM, term);
            }
        }

        private void writeTail(int term) {
            long name = terms.name(term);
            if (name == EMPTY_NAME) {
                writeByte(']');
            } else if (name == PAIR_NAME) {
                int first = terms.first(term);
                push(TAIL, terms.next(first));
                push(TERM, first);
                push(BYTE, ',');
            } else {
                push(BYTE, ']');
                push(TERM, term);
                push(BYTE, '|');
            }
        }

        private void writeChain(int each, int all, int first) {
            int next = terms.next(first);
            if (next != NONE) {
                push(all, next);
                push(BYTE, ',');
            }
            push(each, first);
        }

        private void writeOneGoal(int goal) {
            int kind = terms.kind(goal);
            int first = terms.first(goal);
            if (kind == NAME) {
                push(TERM, goal);
            } else if (kind == NOT || kind == VAR) {
                writeName(terms.name(goal));
                writeByte('(');
                push(BYTE, ')');
                push(kind == NOT ? GOALS : TERM, first);
            } else if (first == NONE) {
                writeName(terms.name(goal));
            } else {
                writeBetween(TERM, first, terms.name(goal), kind == IS);
            }
        }

        /** Writes a name between two terms. It has to wait for the first one: it is put last. */
        private void writeBetween(int each, int first, long name, boolean apart) {
            push(each, terms.next(first));
            if (apart) {
                push(BYTE, ' ');
            }
            for (int shift = 0; shift < 64; shift += 8) {
                int b = (int) (name >> shift & 255);
                if (b != 0) {
                    push(BYTE, b);
                }
            }
            if (apart) {
                push(BYTE, ' ');
            }
            push(each, first);
        }

        private void writeName(long name) {
            for (int shift = 56; shift >= 0; shift -= 8) {
                int b = (int) (name >> shift & 255);
                if (b != 0) {
                    writeByte(b);
                }
            }
        }

        private void writeDigits(int number) {
            // The least number is not the opposite of another 32-bit number.
            long left = number;
            if (left < 0) {
                writeByte('-');
                left = -left;
            }
            long unit = 1;
            for (int k = 1; k < MOST_DIGITS && unit * 10 <= left; k++) {
                unit *= 10;
            }
            for (int k = 0; k < MOST_DIGITS && unit > 0; k++) {
                writeByte((int) ('0' + left / unit % 10));
                unit /= 10;
            }
        }

        private int numberOfFree(int term) {
            for (int k = 0; k < metSize && k < met.length; k++) {
                if (met[k] == term) {
                    return k;
                }
            }
            if (metSize >= 0 && metSize < met.length) {
                met[metSize] = term;
                metSize++;
            }
            return metSize - 1;
        }

        private void writeByte(int b) {
            if (hasRoom() && drafted >= 0 && drafted < draft.length) {
                draft[drafted] = (byte) b;
                drafted++;
            }
        }

        private void push(int kind, int content) {
            if (hasRoom() && open >= 0 && open < items.length) {
                items[open] = content * KINDS + kind;
                open++;
            }
        }

        /** Each open item will take a byte at least, so that they need room as bytes do. */
        private boolean hasRoom() {
            full = full || drafted + open >= MOST_WRITTEN;
            return !full;
        }
    }
}
