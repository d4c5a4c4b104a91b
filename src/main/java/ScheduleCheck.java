import java.util.Arrays;

/** Tries every schedule of a small program of threads and tells what can come of it. */
public final class ScheduleCheck {
    public static final int REFUSED = -1, NONE = -2, FULL = -3;

    private static final int NO_VALUE = 1000;
    private static final int LEAST_VALUE = -128;
    private static final int BYTE_VALUES = 256;

    private static final int TAPE_LIMIT = 1600;
    private static final int FEED_BYTES = 20;

    private static final int MOST_VARIABLES = 8;
    private static final int MOST_LOCKS = 4;
    private static final int MOST_THREADS = 4;
    private static final int MOST_LOCALS = 3;
    private static final int MOST_STATEMENTS = 50;
    private static final int MOST_BLOCKS = 6;
    private static final int MOST_DEPTH = 8;
    private static final int MOST_ATOMS = 150;
    private static final int MOST_STATES = 800;
    /** A wake has a step for each waiting thread, which then has none itself: never more than threads. */
    private static final int MOST_STEPS = MOST_THREADS;

    private static final int LONGEST_NAME = 8;
    private static final int GREATEST_NUMBER = 127;

    private static final int COMPARE_LEVEL = 2;
    private static final int ATOM_LEVEL = 5;

    private static final int ENDED = -1;
    private static final int NOBODY = -1;
    private static final int NO_PARENT = -1;
    /** Stands where a statement's number is not known before the whole program has been read. */
    private static final int OPEN_END = -2;

    private static final int RUNS = 0;
    private static final int WAITS = 1;
    private static final int WOKEN = 2;

    private static final int ASSERT_ERROR = 1;
    private static final int LOCK_ERROR = 2;

    /** A state is a row of cells; the variables come first, so that a variable's number is its cell. */
    private static final int OWNER_CELL = MOST_VARIABLES;
    private static final int PLACE_CELL = OWNER_CELL + MOST_LOCKS;
    private static final int WAIT_CELL = PLACE_CELL + MOST_THREADS;
    private static final int LOCAL_CELL = WAIT_CELL + MOST_THREADS;
    private static final int ERROR_CELL = LOCAL_CELL + MOST_THREADS * MOST_LOCALS;
    private static final int CULPRIT_CELL = ERROR_CELL + 1;
    private static final int ROW = CULPRIT_CELL + 1;

    private static final int BUCKETS = 1024;

    private static final int END_SORT = 0;
    private static final int DEADLOCK_SORT = 1;
    private static final int ERROR_SORT = 2;

    private final byte[] tape;
    private int tapeSize;
    private final Tokens tokens;
    private final Parser parser;
    private final States states;
    private final Explorer explorer;
    private Program program;
    /** A text with a fault must leave the program alone, so it is read into another one. */
    private Program draft;
    /** Of each value, from the least on, whether a variable has it in an end. */
    private final byte[] endValues;

    public ScheduleCheck() {
        tape = new byte[TAPE_LIMIT];
        tokens = new Tokens();
        parser = new Parser();
        states = new States();
        program = new Program();
        draft = new Program();
        explorer = new Explorer(states, program);
        endValues = new byte[BYTE_VALUES];
    }

    public int feed(int a, int b, int c, int d, int e) {
        if (tapeSize + FEED_BYTES > TAPE_LIMIT) {
            return FULL;
        }
        addWord(a);
        addWord(b);
        addWord(c);
        addWord(d);
        addWord(e);
        return tapeSize;
    }

    private void addWord(int word) {
        for (int shift = 24; shift >= 0; shift -= 8) {
            tape[tapeSize] = (byte) (word >> shift);
            tapeSize++;
        }
    }

    public int end(int n) {
        if (n < 0 || n > tapeSize) {
            return REFUSED;
        }
        tapeSize = n;
        return n;
    }

    public int check() {
        tokens.split(tape, tapeSize);
        tapeSize = 0;
        int fault = parser.parse(tokens, draft);
        if (fault != NONE) {
            return fault;
        }
        Program read = draft;
        draft = program;
        program = read;
        if (explorer.explore(program)) {
            return NONE;
        }
        program.clear();
        states.clear();
        return FULL;
    }

    public int count(int what) {
        switch (what) {
            case 0: return states.size;
            case 1: return states.pairs();
            case 2: return countSort(END_SORT);
            case 3: return countSort(DEADLOCK_SORT);
            case 4: return countSort(ERROR_SORT);
            case 5: return program.threads;
            case 6: return program.variables;
            case 7: return program.locks;
            case 8: return program.size;
            default: return REFUSED;
        }
    }

    private int countSort(int sort) {
        int found = 0;
        for (int state = 0; state < states.size; state++) {
            if (explorer.isSort(state, sort)) {
                found++;
            }
        }
        return found;
    }

    public int first(int what) {
        if (what < END_SORT || what > ERROR_SORT) {
            return REFUSED;
        }
        for (int state = 0; state < states.size; state++) {
            if (explorer.isSort(state, what)) {
                return state;
            }
        }
        return NONE;
    }

    public int look(int state, int what) {
        if (what < 0 || what > 4) {
            return REFUSED;
        }
        if (!states.has(state)) {
            return NONE;
        }
        switch (what) {
            case 0: return states.depths[state];
            case 1: return states.movers[state];
            case 2: return states.parents[state];
            case 3: return states.cell(state, ERROR_CELL);
            default: return states.cell(state, CULPRIT_CELL);
        }
    }

    public int value(int state, int variable) {
        if (!states.has(state) || !program.hasVariable(variable)) {
            return NO_VALUE;
        }
        return states.cell(state, variable);
    }

    public int local(int state, int thread, int k) {
        if (!states.has(state) || !program.hasThread(thread)) {
            return NO_VALUE;
        }
        if (k < 0 || k >= program.locals[thread]) {
            return NO_VALUE;
        }
        return states.cell(state, localCell(thread, k));
    }

    public int place(int state, int thread) {
        if (!states.has(state) || !program.hasThread(thread)) {
            return NONE;
        }
        return states.cell(state, PLACE_CELL + thread);
    }

    public int owner(int state, int lock) {
        if (!states.has(state) || lock < 0 || lock >= program.locks) {
            return NONE;
        }
        return states.cell(state, OWNER_CELL + lock);
    }

    public int waits(int state, int thread) {
        if (!states.has(state) || !program.hasThread(thread)) {
            return NONE;
        }
        return states.cell(state, WAIT_CELL + thread);
    }

    public int next(int state, int k) {
        if (!states.has(state) || k < 0 || k >= states.stepsOf(state)) {
            return NONE;
        }
        return states.steps[states.stepsFrom[state] + k];
    }

    public int outcome(int variable, int what) {
        if (!program.hasVariable(variable)) {
            return NO_VALUE;
        }
        markEndValues(variable);
        int least = NO_VALUE;
        int greatest = NO_VALUE;
        int different = 0;
        for (int i = 0; i < BYTE_VALUES; i++) {
            if (endValues[i] != 0) {
                greatest = i + LEAST_VALUE;
                least = different == 0 ? greatest : least;
                different++;
            }
        }
        switch (what) {
            case 0: return least;
            case 1: return greatest;
            case 2: return different == 0 ? NO_VALUE : different;
            default: return NO_VALUE;
        }
    }

    private void markEndValues(int variable) {
        Arrays.fill(endValues, (byte) 0);
        for (int state = 0; state < states.size; state++) {
            if (explorer.isSort(state, END_SORT)) {
                endValues[states.cell(state, variable) - LEAST_VALUE] = 1;
            }
        }
    }

    public int race(int variable) {
        if (!program.hasVariable(variable)) {
            return NONE;
        }
        for (int state = 0; state < states.size; state++) {
            if (explorer.isRace(state, variable)) {
                return state;
            }
        }
        return NONE;
    }

    private static int localCell(int thread, int k) {
        return LOCAL_CELL + thread * MOST_LOCALS + k;
    }

    /** The tokens of a text; a sign between two operands has a level, the lowest binding least. */
    private enum Token {
        END, BAD, NAME, NUMBER, NEGATE,
        VAR("var"), LOCK("lock"), THREAD("thread"), LOCAL("local"),
        TAKE("take"), GIVE("give"), WAIT("wait"), WAKE("wake"), ALL("all"),
        ASSERT("assert"), IF("if"), ELSE("else"), WHILE("while"), STOP("stop"),
        OPEN("{"), CLOSE("}"), LEFT("("), RIGHT(")"), SEMICOLON(";"), GETS("="), NOT("!"),
        OR("||", 0), AND("&&", 1),
        EQUAL("==", 2), UNEQUAL("!=", 2), LESS("<", 2), LESS_EQUAL("<=", 2),
        GREATER(">", 2), GREATER_EQUAL(">=", 2),
        PLUS("+", 3), MINUS("-", 3), TIMES("*", 4);

        private static final Token[] EVERY = values();

        private final long key;
        private final int length;
        final int level;

        Token() {
            this("", -1);
        }

        Token(String text) {
            this(text, -1);
        }

        Token(String text, int level) {
            long packed = 0;
            for (int i = 0; i < text.length(); i++) {
                packed = packed << 8 | text.charAt(i);
            }
            this.key = packed;
            this.length = text.length();
            this.level = level;
        }

        /** The word or sign of these packed bytes, or BAD; the length tells bytes 0 in front apart. */
        static Token find(long key, int length) {
            for (int i = 0; i < EVERY.length; i++) {
                if (EVERY[i].length == length && EVERY[i].key == key) {
                    return EVERY[i];
                }
            }
            return BAD;
        }
    }

    private enum Kind {
        ASSIGN, TAKE, GIVE, WAIT, WAKE, WAKE_ALL, ASSERT, IF, WHILE, STOP
    }

    /** The tokens of a text, the last of them END, or BAD where a byte begins none. */
    private static final class Tokens {
        final Token[] kinds;
        final int[] starts;
        /** A number itself, or a name packed into its bytes, of which there are at most eight. */
        final long[] contents;
        private int size;
        private int at;

        Tokens() {
            kinds = new Token[TAPE_LIMIT + 1];
            starts = new int[TAPE_LIMIT + 1];
            contents = new long[TAPE_LIMIT + 1];
        }

        void split(byte[] text, int length) {
            size = 0;
            at = 0;
            for (int i = 0; i <= TAPE_LIMIT; i++) {
                while (at < length && (text[at] == ' ' || text[at] == '\n')) {
                    at++;
                }
                addToken(text, length);
                if (kinds[i] == Token.END || kinds[i] == Token.BAD) {
                    return;
                }
            }
        }

        private void addToken(byte[] text, int length) {
            starts[size] = at;
            if (at >= length) {
                kinds[size] = Token.END;
            } else if (isLetter(text[at])) {
                kinds[size] = readWord(text, length);
            } else if (isDigit(text[at])) {
                kinds[size] = readNumber(text, length);
            } else {
                kinds[size] = readSign(text, length);
            }
            size++;
        }

        private Token readWord(byte[] text, int length) {
            int start = at;
            long key = 0;
            while (at < length && (isLetter(text[at]) || isDigit(text[at]))) {
                key = key << 8 | text[at];
                at++;
            }
            if (at - start > LONGEST_NAME) {
                return Token.BAD;
            }
            contents[size] = key;
            Token word = Token.find(key, at - start);
            return word == Token.BAD ? Token.NAME : word;
        }

        private Token readNumber(byte[] text, int length) {
            int number = 0;
            while (at < length && isDigit(text[at])) {
                number = Math.min(number * 10 + text[at] - '0', GREATEST_NUMBER + 1);
                at++;
            }
            contents[size] = number;
            return number > GREATEST_NUMBER ? Token.BAD : Token.NUMBER;
        }

        private Token readSign(byte[] text, int length) {
            int one = text[at] & 255;
            int two = at + 1 < length ? text[at + 1] & 255 : 0;
            Token pair = Token.find(one << 8 | two, 2);
            at += pair == Token.BAD ? 1 : 2;
            return pair == Token.BAD ? Token.find(one, 1) : pair;
        }

        private static boolean isLetter(int one) {
            return one >= 'a' && one <= 'z';
        }

        private static boolean isDigit(int one) {
            return one >= '0' && one <= '9';
        }
    }

    private static final class Statement {
        Kind kind;
        int parent;
        /** The cell that an assignment sets, or that holds the owner of the lock that is meant. */
        int target;
        int codeFrom;
        int codeTo;
        /** Where a condition leads, and what comes behind the statement. */
        int yes;
        int no;
        int follow;
        /** A bit for each variable that stands in the step. */
        int uses;

        Statement() {
            kind = Kind.STOP;
        }

        void begin(int block) {
            kind = Kind.STOP;
            parent = block;
            target = 0;
            codeFrom = 0;
            codeTo = 0;
            yes = OPEN_END;
            no = OPEN_END;
            follow = OPEN_END;
            uses = 0;
        }

        boolean needsOwner() {
            return kind == Kind.GIVE || kind == Kind.WAIT || kind == Kind.WAKE || kind == Kind.WAKE_ALL;
        }

        boolean uses(int variable) {
            return (uses >> variable & 1) != 0;
        }

        boolean assigns(int variable) {
            return kind == Kind.ASSIGN && target == variable;
        }
    }

    /** All expressions of a program, operands before their signs. */
    private static final class Code {
        /** Each entry comes from a token of its own, so a tape has no more of them than bytes. */
        private final Token[] signs;
        private final int[] operands;
        /** Only atoms are put on it. */
        private final int[] stack;
        int size;

        Code() {
            signs = new Token[TAPE_LIMIT];
            operands = new int[TAPE_LIMIT];
            stack = new int[MOST_ATOMS];
        }

        void add(Token sign, int operand) {
            if (size < TAPE_LIMIT) {
                signs[size] = sign;
                operands[size] = operand;
                size++;
            }
        }

        int result(int from, int to, byte[] cells, int row) {
            int top = -1;
            for (int i = from; i < to; i++) {
                Token sign = signs[i];
                if (sign == Token.NUMBER) {
                    top++;
                    stack[top] = operands[i];
                } else if (sign == Token.NAME) {
                    top++;
                    stack[top] = cells[row + operands[i]];
                } else if (sign == Token.NOT) {
                    stack[top] = bit(stack[top] == 0);
                } else if (sign == Token.NEGATE) {
                    stack[top] = (byte) -stack[top];
                } else {
                    top--;
                    stack[top] = join(sign, stack[top], stack[top + 1]);
                }
            }
            return stack[0];
        }

        private static int join(Token sign, int left, int right) {
            switch (sign) {
                case OR: return bit(left != 0 || right != 0);
                case AND: return bit(left != 0 && right != 0);
                case EQUAL: return bit(left == right);
                case UNEQUAL: return bit(left != right);
                case LESS: return bit(left < right);
                case LESS_EQUAL: return bit(left <= right);
                case GREATER: return bit(left > right);
                case GREATER_EQUAL: return bit(left >= right);
                case PLUS: return (byte) (left + right);
                case MINUS: return (byte) (left - right);
                default: return (byte) (left * right);
            }
        }

        private static int bit(boolean holds) {
            return holds ? 1 : 0;
        }
    }

    private static final class Program {
        int variables;
        int locks;
        int threads;
        /** How many statements there are. */
        int size;
        final int[] firstValues;
        final int[] locals;
        final int[] entries;
        final Statement[] statements;
        final Code code;

        Program() {
            firstValues = new int[MOST_VARIABLES];
            locals = new int[MOST_THREADS];
            entries = new int[MOST_THREADS];
            statements = new Statement[MOST_STATEMENTS];
            for (int i = 0; i < MOST_STATEMENTS; i++) {
                statements[i] = new Statement();
            }
            code = new Code();
        }

        void clear() {
            variables = 0;
            locks = 0;
            threads = 0;
            size = 0;
            code.size = 0;
        }

        boolean hasVariable(int variable) {
            return variable >= 0 && variable < variables;
        }

        boolean hasThread(int thread) {
            return thread >= 0 && thread < threads;
        }

        /** A parent has a lower number than what is in its blocks, so its own way is settled first. */
        void settleWays() {
            for (int i = 0; i < size; i++) {
                Statement one = statements[i];
                if (one.follow == OPEN_END) {
                    one.follow = behindBlock(one.parent);
                }
                if (one.yes == OPEN_END) {
                    one.yes = one.kind == Kind.WHILE ? i : one.follow;
                }
                if (one.no == OPEN_END) {
                    one.no = one.follow;
                }
            }
        }

        private int behindBlock(int parent) {
            if (parent == NO_PARENT) {
                return ENDED;
            }
            return statements[parent].kind == Kind.WHILE ? parent : statements[parent].follow;
        }
    }

    /**
     * Makes a program of tokens. After a fault the token is BAD for good: nothing takes that, so
     * every loop and every call that stands open comes to its end by itself.
     */
    private static final class Parser {
        /** What is declared: variables and locks, and behind them the locals of the thread. */
        private final long[] names;
        private final int[] cells;
        private int known;
        private int shared;
        private Tokens tokens;
        private int at;
        private Token token;
        private Program program;
        private int fault;
        private int atoms;
        private int uses;

        Parser() {
            names = new long[MOST_VARIABLES + MOST_LOCKS + MOST_LOCALS];
            cells = new int[MOST_VARIABLES + MOST_LOCKS + MOST_LOCALS];
        }

        /** The place of the fault, or NONE. */
        int parse(Tokens read, Program made) {
            tokens = read;
            at = 0;
            token = tokens.kinds[0];
            program = made;
            program.clear();
            fault = NONE;
            atoms = 0;
            readDeclarations();
            readThread();
            for (int i = 0; i < MOST_THREADS && token == Token.THREAD; i++) {
                readThread();
            }
            if (token != Token.END) {
                fail();
            }
            if (fault == NONE) {
                program.settleWays();
            }
            return fault;
        }

        private void fail() {
            if (fault == NONE) {
                fault = tokens.starts[at];
            }
            token = Token.BAD;
        }

        /** END is never taken, so there is always a token behind the one that is. */
        private void advance() {
            if (fault == NONE && at < TAPE_LIMIT) {
                at++;
                token = tokens.kinds[at];
            }
        }

        private void expect(Token wanted) {
            if (token == wanted) {
                advance();
            } else {
                fail();
            }
        }

        private void readDeclarations() {
            known = 0;
            for (int i = 0; i <= MOST_VARIABLES + MOST_LOCKS; i++) {
                if (token == Token.VAR) {
                    readVariable();
                } else if (token == Token.LOCK) {
                    readLock();
                }
            }
            shared = known;
        }

        private void readVariable() {
            int variable = program.variables;
            advance();
            if (declare(variable < MOST_VARIABLES, 0, variable)) {
                program.variables++;
                program.firstValues[variable] = readFirstValue();
                expect(Token.SEMICOLON);
            }
        }

        private int readFirstValue() {
            if (token != Token.GETS) {
                return 0;
            }
            advance();
            boolean negative = token == Token.MINUS;
            if (negative) {
                advance();
            }
            int number = (int) tokens.contents[at];
            expect(Token.NUMBER);
            return negative ? -number : number;
        }

        private void readLock() {
            int lock = program.locks;
            advance();
            if (declare(lock < MOST_LOCKS, 0, OWNER_CELL + lock)) {
                program.locks++;
                expect(Token.SEMICOLON);
            }
        }

        /** Makes the name that stands here known, if it is not among those from a place on. */
        private boolean declare(boolean hasRoom, int from, int cell) {
            if (token != Token.NAME || !hasRoom || find(from) >= 0) {
                fail();
                return false;
            }
            names[known] = tokens.contents[at];
            cells[known] = cell;
            known++;
            advance();
            return true;
        }

        /** The cell of the name that stands here, or NONE; what was declared last hides the others. */
        private int find(int from) {
            for (int i = known - 1; i >= from; i--) {
                if (token == Token.NAME && names[i] == tokens.contents[at]) {
                    return cells[i];
                }
            }
            return NONE;
        }

        private static boolean isLock(int cell) {
            return cell >= OWNER_CELL && cell < PLACE_CELL;
        }

        private static boolean isVariable(int cell) {
            return cell >= 0 && cell < OWNER_CELL;
        }

        private static boolean isLocal(int cell) {
            return cell >= LOCAL_CELL;
        }

        private void readThread() {
            int thread = program.threads;
            if (token != Token.THREAD || thread == MOST_THREADS) {
                fail();
                return;
            }
            program.threads++;
            program.locals[thread] = 0;
            known = shared;
            advance();
            expect(Token.OPEN);
            for (int i = 0; i <= MOST_LOCALS && token == Token.LOCAL; i++) {
                readLocal(thread);
            }
            int entry = program.size;
            readStatements(NO_PARENT, 0);
            program.entries[thread] = program.size > entry ? entry : ENDED;
            expect(Token.CLOSE);
        }

        private void readLocal(int thread) {
            int k = program.locals[thread];
            advance();
            if (declare(k < MOST_LOCALS, shared, localCell(thread, k))) {
                program.locals[thread]++;
                expect(Token.SEMICOLON);
            }
        }

        private void readStatements(int parent, int depth) {
            for (int i = 0; i <= MOST_STATEMENTS; i++) {
                if (fault != NONE || token == Token.CLOSE) {
                    return;
                }
                readStatement(parent, depth);
            }
        }

        private void readStatement(int parent, int depth) {
            if (program.size == MOST_STATEMENTS) {
                fail();
                return;
            }
            Statement made = program.statements[program.size];
            made.begin(parent);
            program.size++;
            switch (token) {
                case NAME: readAssignment(made); break;
                case TAKE: readLockUse(made, Kind.TAKE); break;
                case GIVE: readLockUse(made, Kind.GIVE); break;
                case WAIT: readLockUse(made, Kind.WAIT); break;
                case WAKE: readLockUse(made, Kind.WAKE); break;
                case ASSERT: readAssert(made); break;
                case STOP: readStop(made); break;
                case IF: readCondition(made, Kind.IF, depth); break;
                case WHILE: readCondition(made, Kind.WHILE, depth); break;
                default: fail(); break;
            }
            made.follow = token == Token.CLOSE ? OPEN_END : program.size;
        }

        private void readAssignment(Statement made) {
            int cell = find(0);
            if (!isVariable(cell) && !isLocal(cell)) {
                fail();
                return;
            }
            made.kind = Kind.ASSIGN;
            made.target = cell;
            advance();
            expect(Token.GETS);
            readExpression(made);
            if (isVariable(cell)) {
                made.uses |= 1 << cell;
            }
            expect(Token.SEMICOLON);
        }

        private void readLockUse(Statement made, Kind kind) {
            made.kind = kind;
            advance();
            if (kind == Kind.WAKE && token == Token.ALL) {
                made.kind = Kind.WAKE_ALL;
                advance();
            }
            made.target = find(0);
            if (!isLock(made.target)) {
                fail();
                return;
            }
            advance();
            expect(Token.SEMICOLON);
        }

        private void readAssert(Statement made) {
            made.kind = Kind.ASSERT;
            advance();
            readExpression(made);
            expect(Token.SEMICOLON);
        }

        private void readStop(Statement made) {
            made.kind = Kind.STOP;
            advance();
            expect(Token.SEMICOLON);
        }

        private void readCondition(Statement made, Kind kind, int depth) {
            int number = program.size - 1;
            made.kind = kind;
            advance();
            expect(Token.LEFT);
            readExpression(made);
            expect(Token.RIGHT);
            made.yes = readBlock(number, depth);
            if (kind == Kind.IF && token == Token.ELSE) {
                advance();
                made.no = readBlock(number, depth);
            }
        }

        /** The first statement of the block, or OPEN_END of an empty one. */
        private int readBlock(int parent, int depth) {
            if (depth == MOST_BLOCKS) {
                fail();
                return OPEN_END;
            }
            expect(Token.OPEN);
            int entry = program.size;
            readStatements(parent, depth + 1);
            expect(Token.CLOSE);
            return program.size > entry ? entry : OPEN_END;
        }

        private void readExpression(Statement made) {
            uses = 0;
            made.codeFrom = program.code.size;
            readLevel(0, 0);
            made.codeTo = program.code.size;
            made.uses = uses;
        }

        private void readLevel(int level, int depth) {
            if (level == ATOM_LEVEL) {
                readAtom(depth);
                return;
            }
            readLevel(level + 1, depth);
            int most = level == COMPARE_LEVEL ? 1 : MOST_ATOMS;
            for (int i = 0; i < most && token.level == level; i++) {
                Token sign = token;
                advance();
                readLevel(level + 1, depth);
                program.code.add(sign, 0);
            }
        }

        private void readAtom(int depth) {
            Token sign = token;
            if (sign == Token.NUMBER || sign == Token.NAME) {
                readOperand();
            } else if (depth == MOST_DEPTH) {
                fail();
            } else if (sign == Token.LEFT) {
                advance();
                readLevel(0, depth + 1);
                expect(Token.RIGHT);
            } else if (sign == Token.MINUS || sign == Token.NOT) {
                advance();
                readAtom(depth + 1);
                program.code.add(sign == Token.NOT ? Token.NOT : Token.NEGATE, 0);
            } else {
                fail();
            }
        }

        private void readOperand() {
            boolean isName = token == Token.NAME;
            int operand = isName ? find(0) : (int) tokens.contents[at];
            boolean isKnown = !isName || isVariable(operand) || isLocal(operand);
            if (!isKnown || atoms == MOST_ATOMS) {
                fail();
                return;
            }
            atoms++;
            program.code.add(token, operand);
            if (isName && isVariable(operand)) {
                uses |= 1 << operand;
            }
            advance();
        }
    }

    /** All states that have been found, with the steps between them. */
    private static final class States {
        /** One row more than there may be states: the next state is built in the row behind the last. */
        final byte[] cells;
        final int[] depths;
        final int[] parents;
        final int[] movers;
        final int[] steps;
        /** Where a state's steps begin; the next state's begin where they end. */
        final int[] stepsFrom;
        private final int[] hashes;
        private final int[] buckets;
        private final int[] chain;
        int size;
        private int stepCount;
        boolean overflows;

        States() {
            cells = new byte[(MOST_STATES + 1) * ROW];
            depths = new int[MOST_STATES];
            parents = new int[MOST_STATES];
            movers = new int[MOST_STATES];
            steps = new int[MOST_STATES * MOST_STEPS];
            stepsFrom = new int[MOST_STATES + 1];
            hashes = new int[MOST_STATES];
            buckets = new int[BUCKETS];
            chain = new int[MOST_STATES];
        }

        void clear() {
            size = 0;
            stepCount = 0;
            overflows = false;
            Arrays.fill(buckets, NONE);
        }

        boolean has(int state) {
            return state >= 0 && state < size;
        }

        int cell(int state, int cell) {
            return cells[state * ROW + cell];
        }

        void set(int cell, int content) {
            cells[size * ROW + cell] = (byte) content;
        }

        void copy(int state) {
            System.arraycopy(cells, state * ROW, cells, size * ROW, ROW);
        }

        void beginSteps(int state) {
            stepsFrom[state] = stepCount;
            stepsFrom[state + 1] = stepCount;
        }

        int stepsOf(int state) {
            return stepsFrom[state + 1] - stepsFrom[state];
        }

        /** The state that has been built is the first one, or where a step of a thread leads. */
        void keep(int parent, int mover) {
            int hash = hashBuilt();
            int state = findBuilt(hash);
            if (state == NONE && size == MOST_STATES) {
                overflows = true;
                return;
            }
            if (state == NONE) {
                state = size;
                addBuilt(hash, parent, mover);
            }
            if (parent != NO_PARENT && stepCount < steps.length) {
                steps[stepCount] = state;
                stepCount++;
                stepsFrom[parent + 1] = stepCount;
            }
        }

        private void addBuilt(int hash, int parent, int mover) {
            int bucket = hash & BUCKETS - 1;
            depths[size] = parent == NO_PARENT ? 0 : depths[parent] + 1;
            parents[size] = parent;
            movers[size] = mover;
            hashes[size] = hash;
            chain[size] = buckets[bucket];
            buckets[bucket] = size;
            size++;
        }

        private int hashBuilt() {
            int hash = 0;
            int from = size * ROW;
            for (int i = 0; i < ROW; i++) {
                hash = hash * 31 + cells[from + i];
            }
            return hash;
        }

        private int findBuilt(int hash) {
            int state = buckets[hash & BUCKETS - 1];
            for (int i = 0; i < size && state != NONE; i++) {
                if (hashes[state] == hash && isBuilt(state)) {
                    return state;
                }
                state = chain[state];
            }
            return NONE;
        }

        private boolean isBuilt(int state) {
            for (int i = 0; i < ROW; i++) {
                if (cells[state * ROW + i] != cells[size * ROW + i]) {
                    return false;
                }
            }
            return true;
        }

        int pairs() {
            int found = 0;
            for (int state = 0; state < size; state++) {
                for (int i = stepsFrom[state]; i < stepsFrom[state + 1]; i++) {
                    if (isFirstTo(i, stepsFrom[state])) {
                        found++;
                    }
                }
            }
            return found;
        }

        private boolean isFirstTo(int step, int from) {
            for (int i = from; i < step; i++) {
                if (steps[i] == steps[step]) {
                    return false;
                }
            }
            return true;
        }
    }

    /** Finds a program's states, and what sort they are of. */
    private static final class Explorer {
        private final States states;
        private Program program;

        Explorer(States states, Program program) {
            this.states = states;
            this.program = program;
        }

        /** False if there are more states than may be. */
        boolean explore(Program explored) {
            program = explored;
            states.clear();
            buildFirst();
            states.keep(NO_PARENT, NOBODY);
            for (int state = 0; state < MOST_STATES && state < states.size; state++) {
                states.beginSteps(state);
                int movers = states.cell(state, ERROR_CELL) == 0 ? program.threads : 0;
                for (int thread = 0; thread < movers; thread++) {
                    if (isReady(state, thread)) {
                        takeStep(state, thread);
                    }
                }
                if (states.overflows) {
                    return false;
                }
            }
            return true;
        }

        private void buildFirst() {
            for (int i = 0; i < ROW; i++) {
                states.set(i, 0);
            }
            for (int i = 0; i < program.variables; i++) {
                states.set(i, program.firstValues[i]);
            }
            for (int i = 0; i < MOST_LOCKS; i++) {
                states.set(OWNER_CELL + i, NOBODY);
            }
            for (int i = 0; i < program.threads; i++) {
                states.set(PLACE_CELL + i, program.entries[i]);
            }
            states.set(CULPRIT_CELL, NOBODY);
        }

        private boolean isReady(int state, int thread) {
            int wait = states.cell(state, WAIT_CELL + thread);
            if (states.cell(state, PLACE_CELL + thread) == ENDED || wait == WAITS) {
                return false;
            }
            Statement next = nextOf(state, thread);
            if (wait == WOKEN || next.kind == Kind.TAKE) {
                return states.cell(state, next.target) == NOBODY;
            }
            return true;
        }

        /** What a thread that has not ended does next. */
        private Statement nextOf(int state, int thread) {
            return program.statements[states.cell(state, PLACE_CELL + thread)];
        }

        private void takeStep(int state, int thread) {
            Statement next = nextOf(state, thread);
            states.copy(state);
            if (states.cell(state, WAIT_CELL + thread) == WOKEN) {
                states.set(WAIT_CELL + thread, RUNS);
                states.set(next.target, thread);
                go(state, thread, next.follow);
                return;
            }
            if (next.needsOwner() && states.cell(state, next.target) != thread) {
                err(state, thread, LOCK_ERROR);
                return;
            }
            switch (next.kind) {
                case ASSIGN:
                    states.set(next.target, resultIn(state, next));
                    go(state, thread, next.follow);
                    break;
                case TAKE:
                    states.set(next.target, thread);
                    go(state, thread, next.follow);
                    break;
                case GIVE:
                    states.set(next.target, NOBODY);
                    go(state, thread, next.follow);
                    break;
                case WAIT:
                    states.set(next.target, NOBODY);
                    states.set(WAIT_CELL + thread, WAITS);
                    states.keep(state, thread);
                    break;
                case WAKE:
                    wakeOne(state, thread, next);
                    break;
                case WAKE_ALL:
                    wakeAll(state, thread, next);
                    break;
                case ASSERT:
                    assertThat(state, thread, next);
                    break;
                case STOP:
                    go(state, thread, ENDED);
                    break;
                default:
                    go(state, thread, resultIn(state, next) != 0 ? next.yes : next.no);
                    break;
            }
        }

        private void assertThat(int state, int thread, Statement next) {
            if (resultIn(state, next) == 0) {
                err(state, thread, ASSERT_ERROR);
            } else {
                go(state, thread, next.follow);
            }
        }

        private int resultIn(int state, Statement next) {
            return program.code.result(next.codeFrom, next.codeTo, states.cells, state * ROW);
        }

        private void go(int state, int thread, int to) {
            states.set(PLACE_CELL + thread, to);
            states.keep(state, thread);
        }

        private void err(int state, int thread, int kind) {
            states.set(ERROR_CELL, kind);
            states.set(CULPRIT_CELL, thread);
            states.keep(state, thread);
        }

        private void wakeOne(int state, int thread, Statement next) {
            boolean nobody = true;
            for (int other = 0; other < program.threads; other++) {
                if (waitsFor(state, other, next.target)) {
                    nobody = false;
                    states.copy(state);
                    states.set(WAIT_CELL + other, WOKEN);
                    go(state, thread, next.follow);
                }
            }
            if (nobody) {
                go(state, thread, next.follow);
            }
        }

        private void wakeAll(int state, int thread, Statement next) {
            for (int other = 0; other < program.threads; other++) {
                if (waitsFor(state, other, next.target)) {
                    states.set(WAIT_CELL + other, WOKEN);
                }
            }
            go(state, thread, next.follow);
        }

        private boolean waitsFor(int state, int thread, int lock) {
            return states.cell(state, WAIT_CELL + thread) == WAITS
                && nextOf(state, thread).target == lock;
        }

        boolean isSort(int state, int sort) {
            boolean isError = states.cell(state, ERROR_CELL) != 0;
            if (sort == ERROR_SORT || isError) {
                return sort == ERROR_SORT && isError;
            }
            if (sort == END_SORT) {
                return haveAllEnded(state);
            }
            return states.stepsOf(state) == 0 && !haveAllEnded(state);
        }

        private boolean haveAllEnded(int state) {
            for (int thread = 0; thread < program.threads; thread++) {
                if (states.cell(state, PLACE_CELL + thread) != ENDED) {
                    return false;
                }
            }
            return true;
        }

        boolean isRace(int state, int variable) {
            if (states.cell(state, ERROR_CELL) != 0) {
                return false;
            }
            int users = 0;
            int writers = 0;
            for (int thread = 0; thread < program.threads; thread++) {
                boolean isWoken = states.cell(state, WAIT_CELL + thread) == WOKEN;
                if (isReady(state, thread) && !isWoken) {
                    Statement next = nextOf(state, thread);
                    users += next.uses(variable) ? 1 : 0;
                    writers += next.assigns(variable) ? 1 : 0;
                }
            }
            return users > 1 && writers > 0;
        }
    }
}
