import java.util.NoSuchElementException;

/** A house for a small strict language whose cells are counted and built anew in place. */
public final class ReuseHouse {
    public static final int NONE = -1;

    private static final int TAPE_BYTES = 2000;
    private static final int OUT_BYTES = 4000;
    private static final int MOST_FUNCTIONS = 30;
    private static final int MOST_TOLD = 6;
    private static final int MOST_KINDS = 20;
    private static final int MOST_FIELDS = 3;
    private static final int MOST_ARMS = 8;
    private static final int MOST_NAMES = 24;
    private static final int MOST_DEEP = 30;
    private static final int MOST_CALLS = 100;
    private static final int MOST_STEPS = 20000;
    private static final int MOST_CELLS = 400;
    private static final int PLAIN_CELLS = 4000;
    // A sign gives two rows of code and stands behind a byte that gives one at most;
    // every other token gives no more rows than it has bytes with the bracket behind it.
    private static final int MOST_CODE = 3000;
    // The shortest arm with the sign that ends it has five bytes.
    private static final int ALL_ARMS = 400;
    // Each value that waits took a step of its own; names have rows besides.
    private static final int STACK = MOST_STEPS + (MOST_CALLS + 1) * MOST_NAMES;
    private static final int SHELL_ROWS = MOST_CALLS * MOST_DEEP;
    // No step brings more than four rows of code to work.
    private static final int MOST_TURNS = 100000;

    private static final int FAULT_FORM = 1;
    private static final int FAULT_UNTOLD = 2;
    private static final int FAULT_TWICE = 3;
    private static final int FAULT_FIELDS = 4;
    private static final int FAULT_MANY = 5;

    private static final int ENDED = 1;
    private static final int STUCK = 2;
    private static final int FULL = 3;
    private static final int DEEP = 4;
    private static final int CUT = 5;

    // Single signs are tokens by their own byte; the others stand above all bytes.
    private static final int T_END = 256;
    private static final int T_BAD = 257;
    private static final int T_NAME = 258;
    private static final int T_KIND = 259;
    private static final int T_NUMBER = 260;
    private static final int T_ARROW = 261;
    private static final int T_LET = 262;
    private static final int T_IN = 263;
    private static final int T_IF = 264;
    private static final int T_THEN = 265;
    private static final int T_ELSE = 266;
    private static final int T_MATCH = 267;
    private static final int T_FUN = 268;

    private static final int OP_ENTER = 0;
    private static final int OP_STEP = 1;
    private static final int OP_NUMBER = 2;
    private static final int OP_NAME = 3;
    private static final int OP_KIND_ALONE = 4;
    private static final int OP_KIND = 5;
    private static final int OP_CALL_ALONE = 6;
    private static final int OP_CALL = 7;
    private static final int OP_ADD = 8;
    private static final int OP_SUBTRACT = 9;
    private static final int OP_MULTIPLY = 10;
    private static final int OP_LESS = 11;
    private static final int OP_LET = 12;
    private static final int OP_IF = 13;
    private static final int OP_JUMP = 14;
    private static final int OP_MATCH = 15;
    private static final int OP_LEAVE = 16;
    private static final int OP_RETURN = 17;

    private static final int ANY_KIND = -2;

    private static final int ABOUT_TOLD = 0;
    private static final int ABOUT_NAMES = 1;
    private static final int ABOUT_KINDS = 2;
    private static final int ABOUT_MATCHES = 3;
    private static final int ABOUT_SHELLS = 4;
    private static final int ABOUT_ROWS = 5;

    private final byte[] tape = new byte[TAPE_BYTES];
    private int fed = 0;
    private Program taken = new Program();
    private final Parser parser = new Parser();
    private final Machine machine = new Machine(taken);
    private final Cells countedCells = new Cells(MOST_CELLS);
    private final Cells plainCells = new Cells(PLAIN_CELLS);
    private final Printer printer = new Printer();
    private int faultNumber = 0;
    private int stopPlace = NONE;
    private boolean wasRun = false;
    private int runSteps = 0;
    private int runCalls = 0;
    private boolean hasValue = false;
    private long value = 0;
    private boolean hasOther = false;
    private long otherValue = 0;

    public ReuseHouse() {
    }

    public int feed(int a, int b, int c, int d, int e) {
        if (fed + 20 > TAPE_BYTES) {
            return NONE;
        }
        putFour(a);
        putFour(b);
        putFour(c);
        putFour(d);
        putFour(e);
        return fed;
    }

    private void putFour(int bytes) {
        for (int shift = 24; shift >= 0 && fed < TAPE_BYTES; shift -= 8) {
            tape[fed] = (byte) (bytes >>> shift);
            fed++;
        }
    }

    public int program(int n) {
        stopPlace = NONE;
        faultNumber = 0;
        if (n < 0 || n > fed) {
            return NONE;
        }
        fed = 0;
        if (!parser.reads(tape, n)) {
            faultNumber = parser.faultNumber;
            stopPlace = parser.faultPlace;
            return NONE;
        }
        Program former = taken;
        taken = parser.draft;
        parser.draft = former;
        wasRun = false;
        hasValue = false;
        hasOther = false;
        return taken.functions.size;
    }

    public int fault() {
        return faultNumber;
    }

    public int where() {
        return stopPlace;
    }

    public int about(int f, int what) {
        if (!taken.functions.has(f) || what < 0 || what >= ABOUT_ROWS) {
            return NONE;
        }
        return taken.functions.fact(f, what);
    }

    public int run(int f, int cells, int steps, int a, int b, int c, int d) {
        if (cells < 0 || cells > MOST_CELLS || !mayWork(f, steps)) {
            return NONE;
        }
        countedCells.begin(taken.kinds, cells);
        machine.begin(taken, countedCells, true, steps);
        tellInts(f, a, b, c, d);
        machine.work(f);
        stopPlace = machine.stopPlace;
        wasRun = true;
        runSteps = machine.steps;
        runCalls = machine.mostOpen;
        hasValue = machine.how == ENDED;
        value = machine.result;
        if (!hasValue) {
            countedCells.held = 0;
        }
        return machine.how;
    }

    public int plain(int f, int steps, int a, int b, int c, int d) {
        if (!mayWork(f, steps)) {
            return NONE;
        }
        plainCells.begin(taken.kinds, PLAIN_CELLS);
        machine.begin(taken, plainCells, false, steps);
        tellInts(f, a, b, c, d);
        machine.work(f);
        stopPlace = machine.stopPlace;
        hasOther = machine.how == ENDED;
        otherValue = machine.result;
        return machine.how;
    }

    private boolean mayWork(int f, int steps) {
        return taken.functions.has(f) && steps >= 0 && steps <= MOST_STEPS;
    }

    private void tellInts(int f, int a, int b, int c, int d) {
        int told = taken.functions.fact(f, ABOUT_TOLD);
        for (int i = 0; i < told; i++) {
            int number = i == 0 ? a : i == 1 ? b : i == 2 ? c : i == 3 ? d : 0;
            machine.push(Cells.ofInt(number));
        }
    }

    public int show(boolean other) {
        if (other) {
            return hasOther ? printer.print(otherValue, plainCells) : NONE;
        }
        return hasValue ? printer.print(value, countedCells) : NONE;
    }

    public int out(int i) throws NoSuchElementException {
        if (!printer.has(i)) {
            throw new NoSuchElementException();
        }
        return printer.bytes[i];
    }

    public int release() {
        if (!hasValue) {
            return NONE;
        }
        hasValue = false;
        int before = countedCells.freed;
        countedCells.drop(value);
        return countedCells.freed - before;
    }

    public int count(int what) {
        if (!wasRun) {
            return NONE;
        }
        switch (what) {
            case 0: return runSteps;
            case 1: return countedCells.made;
            case 2: return countedCells.reused;
            case 3: return countedCells.freed;
            case 4: return countedCells.mostHeld;
            case 5: return countedCells.doubled;
            case 6: return countedCells.held;
            case 7: return runCalls;
            default: return NONE;
        }
    }

    /** The tokens of the tape, and the one at hand. */
    private static final class Tokens {
        private static final String SIGNS = "(),=+-*<{}|;_";
        // Words are kept as their bytes, the first one highest.
        private static final long LET = 0x6C6574L;
        private static final long IN = 0x696EL;
        private static final long IF = 0x6966L;
        private static final long THEN = 0x7468656EL;
        private static final long ELSE = 0x656C7365L;
        private static final long MATCH = 0x6D61746368L;
        private static final long FUN = 0x66756EL;

        private final int[] sorts = new int[TAPE_BYTES + 1];
        private final int[] places = new int[TAPE_BYTES + 1];
        private final long[] words = new long[TAPE_BYTES + 1];
        private int size = 0;
        int at = 0;
        int sort = T_END;
        int place = 0;
        /** The bytes of a name or kind; a number as it is. */
        long word = 0;

        void read(byte[] tape, int n) {
            int end = Math.max(0, Math.min(n, TAPE_BYTES));
            int from = 0;
            size = 0;
            for (int i = 0; i < end && from < end; i++) {
                int first = tape[from] & 255;
                if (first == 32 || first == 10) {
                    from++;
                } else {
                    places[size] = from;
                    from = isWordByte(first) ? readWord(tape, from, end) : readSign(tape, from, end);
                    size++;
                }
            }
            sorts[size] = T_END;
            places[size] = end;
            words[size] = 0;
            at = NONE;
            advance();
        }

        void advance() {
            at = Math.min(at + 1, size);
            sort = sorts[at];
            place = places[at];
            word = words[at];
        }

        boolean opensBracketNext() {
            return at < size && sorts[at + 1] == '(';
        }

        long wordOf(int token) {
            return token >= 0 && token <= size ? words[token] : 0;
        }

        private int readWord(byte[] tape, int from, int end) {
            int to = from;
            int small = 0;
            int digits = 0;
            int number = 0;
            long bytes = 0;
            while (to < end && isWordByte(tape[to])) {
                if (isSmall(tape[to])) {
                    small++;
                } else if (isDigit(tape[to])) {
                    digits++;
                    number = number * 10 + (tape[to] - '0');
                }
                bytes = bytes << 8 | tape[to];
                to++;
            }
            int length = to - from;
            if (digits == length) {
                sorts[size] = length <= 9 ? T_NUMBER : T_BAD;
            } else if (length > 8) {
                sorts[size] = T_BAD;
            } else if (small == length) {
                sorts[size] = sortOfSmall(bytes);
            } else {
                sorts[size] = small == length - 1 && isGreat(tape[from]) ? T_KIND : T_BAD;
            }
            words[size] = digits == length ? number : bytes;
            return to;
        }

        private static int sortOfSmall(long word) {
            if (word == LET) {
                return T_LET;
            }
            if (word == IN) {
                return T_IN;
            }
            if (word == IF) {
                return T_IF;
            }
            if (word == THEN) {
                return T_THEN;
            }
            if (word == ELSE) {
                return T_ELSE;
            }
            if (word == MATCH) {
                return T_MATCH;
            }
            return word == FUN ? T_FUN : T_NAME;
        }

        private int readSign(byte[] tape, int from, int end) {
            int first = tape[from] & 255;
            words[size] = 0;
            if (first == '-' && from + 1 < end && tape[from + 1] == '>') {
                sorts[size] = T_ARROW;
                return from + 2;
            }
            sorts[size] = SIGNS.indexOf((char) first) >= 0 ? first : T_BAD;
            return from + 1;
        }

        private static boolean isWordByte(int sign) {
            return isSmall(sign) || isGreat(sign) || isDigit(sign);
        }

        private static boolean isSmall(int sign) {
            return sign >= 'a' && sign <= 'z';
        }

        private static boolean isGreat(int sign) {
            return sign >= 'A' && sign <= 'Z';
        }

        private static boolean isDigit(int sign) {
            return sign >= '0' && sign <= '9';
        }
    }

    /**
     * Rows of code, chained in the order of work: a sign's step comes ahead of its left operand,
     * which is written first. A row that leads elsewhere has the row BEHIND which to go on,
     * so that what is put in between later is met too.
     */
    private static final class Code {
        final int[] op = new int[MOST_CODE];
        final int[] a = new int[MOST_CODE];
        final int[] b = new int[MOST_CODE];
        final int[] place = new int[MOST_CODE];
        final int[] next = new int[MOST_CODE];
        /** The names, a bit each, that are needed as the row's work begins. */
        final int[] needed = new int[MOST_CODE];
        int size = 0;
        int tail = NONE;

        void clear() {
            size = 0;
            tail = NONE;
        }

        int append(int operation, int where, int number) {
            int row = insertBehind(tail, operation, where);
            a[row] = number;
            return row;
        }

        void appendStep(int where) {
            insertBehind(tail, OP_STEP, where);
        }

        int insertBehind(int before, int operation, int where) {
            if (size >= MOST_CODE) {
                return MOST_CODE - 1;
            }
            int row = size;
            size++;
            op[row] = operation;
            a[row] = NONE;
            b[row] = NONE;
            place[row] = where;
            needed[row] = 0;
            next[row] = before == NONE ? NONE : next[before];
            if (before != NONE) {
                next[before] = row;
            }
            if (before == tail) {
                tail = row;
            }
            return row;
        }

        int neededBehind(int row) {
            int behind = row == NONE ? NONE : next[row];
            return behind == NONE ? 0 : needed[behind];
        }
    }

    /** The arms of all matches; those of one match are a chain. */
    private static final class Arms {
        final int[] kind = new int[ALL_ARMS];
        final int[] next = new int[ALL_ARMS];
        /** The row behind which the arm's code begins. */
        final int[] before = new int[ALL_ARMS];
        final int[] leave = new int[ALL_ARMS];
        final int[] firstSlot = new int[ALL_ARMS];
        /** Which numbers of fields the kinds built in the arm have, a bit each. */
        final int[] builds = new int[ALL_ARMS];
        int size = 0;

        int add(int armKind, int slot) {
            if (size >= ALL_ARMS) {
                return ALL_ARMS - 1;
            }
            int arm = size;
            size++;
            kind[arm] = armKind;
            next[arm] = NONE;
            before[arm] = NONE;
            leave[arm] = NONE;
            firstSlot[arm] = slot;
            builds[arm] = 0;
            return arm;
        }
    }

    private static final class Kinds {
        final long[] word = new long[MOST_KINDS];
        /** NONE until the kind is told to its end for the first time. */
        final int[] fields = new int[MOST_KINDS];
        int size = 0;

        int find(long name) {
            for (int i = 0; i < size; i++) {
                if (word[i] == name) {
                    return i;
                }
            }
            return NONE;
        }

        int add(long name) {
            if (size >= MOST_KINDS) {
                return MOST_KINDS - 1;
            }
            word[size] = name;
            fields[size] = NONE;
            size++;
            return size - 1;
        }

        int fieldsOf(int kind) {
            return kind >= 0 && kind < size && fields[kind] > 0 ? fields[kind] : 0;
        }

        long wordOf(int kind) {
            return kind >= 0 && kind < size ? word[kind] : 0;
        }
    }

    private static final class Functions {
        final long[] word = new long[MOST_FUNCTIONS];
        final int[] enter = new int[MOST_FUNCTIONS];
        final int[] facts = new int[MOST_FUNCTIONS * ABOUT_ROWS];
        int size = 0;

        boolean has(int f) {
            return f >= 0 && f < size;
        }

        int find(long name) {
            for (int i = 0; i < size; i++) {
                if (word[i] == name) {
                    return i;
                }
            }
            return NONE;
        }

        int add(long name) {
            if (size >= MOST_FUNCTIONS) {
                return MOST_FUNCTIONS - 1;
            }
            int f = size;
            size++;
            word[f] = name;
            enter[f] = NONE;
            for (int what = 0; what < ABOUT_ROWS; what++) {
                facts[f * ABOUT_ROWS + what] = 0;
            }
            return f;
        }

        int fact(int f, int what) {
            return has(f) ? facts[f * ABOUT_ROWS + what] : 0;
        }

        void oneMore(int f, int what) {
            if (has(f)) {
                facts[f * ABOUT_ROWS + what]++;
            }
        }
    }

    private static final class Program {
        final Code code = new Code();
        final Arms arms = new Arms();
        final Kinds kinds = new Kinds();
        final Functions functions = new Functions();

        void clear() {
            code.clear();
            arms.size = 0;
            kinds.size = 0;
            functions.size = 0;
        }

        int armFields(int arm) {
            return kinds.fieldsOf(arms.kind[arm]);
        }

        boolean buildsAsMany(int arm) {
            return (arms.builds[arm] >> armFields(arm) & 1) == 1;
        }
    }

    /** Reads a program and writes its code; a fault is thrown from where it is met. */
    private static final class Parser {
        private final Tokens tokens = new Tokens();
        private final Needs needs = new Needs();
        private final long[] names = new long[MOST_NAMES];
        private int around = 0;
        private final int[] built = new int[MOST_FIELDS + 1];
        Program draft = new Program();
        private int function = 0;
        int faultNumber = 0;
        int faultPlace = NONE;

        boolean reads(byte[] tape, int n) {
            tokens.read(tape, n);
            draft.clear();
            faultNumber = 0;
            faultPlace = NONE;
            try {
                for (int i = 0; i <= MOST_FUNCTIONS && (i == 0 || tokens.sort == T_FUN); i++) {
                    definition();
                }
                expect(T_END);
                resolveCalls();
            } catch (IllegalStateException met) {
                return false;
            }
            needs.mark(draft);
            return true;
        }

        private void fail(int number, int place) {
            faultNumber = number;
            faultPlace = place;
            throw new IllegalStateException();
        }

        private void failForm() {
            fail(FAULT_FORM, tokens.place);
        }

        /** A kind alone is told to its end at its own place, where its fault has the lesser number. */
        private void failMany() {
            if (tokens.sort == T_KIND && !tokens.opensBracketNext()) {
                int kind = draft.kinds.find(tokens.word);
                if (kind != NONE && draft.kinds.fieldsOf(kind) > 0) {
                    fail(FAULT_FIELDS, tokens.place);
                }
            }
            fail(FAULT_MANY, tokens.place);
        }

        private void expect(int sort) {
            if (tokens.sort != sort) {
                failForm();
            }
            tokens.advance();
        }

        private void definition() {
            if (tokens.sort == T_FUN && draft.functions.size >= MOST_FUNCTIONS) {
                failMany();
            }
            expect(T_FUN);
            if (tokens.sort != T_NAME) {
                failForm();
            }
            if (draft.functions.find(tokens.word) != NONE) {
                fail(FAULT_TWICE, tokens.place);
            }
            function = draft.functions.add(tokens.word);
            tokens.advance();
            around = 0;
            toldNames();
            draft.functions.enter[function] = draft.code.append(OP_ENTER, tokens.place, function);
            expect('=');
            expression(1);
            expect(';');
            draft.code.append(OP_RETURN, tokens.place, NONE);
        }

        private void toldNames() {
            for (int i = 0; i <= MOST_TOLD && tokens.sort == T_NAME; i++) {
                newName();
                if (i >= MOST_TOLD) {
                    failMany();
                }
                tell(tokens.word);
                draft.functions.oneMore(function, ABOUT_TOLD);
                tokens.advance();
            }
        }

        private int slotOf(long name) {
            for (int slot = 0; slot < around; slot++) {
                if (names[slot] == name) {
                    return slot;
                }
            }
            return NONE;
        }

        /** The token at hand must be a name that may be told here. */
        private void newName() {
            if (tokens.sort != T_NAME) {
                failForm();
            }
            if (slotOf(tokens.word) != NONE) {
                fail(FAULT_TWICE, tokens.place);
            }
            if (around >= MOST_NAMES) {
                failMany();
            }
        }

        private int tell(long name) {
            if (around >= MOST_NAMES) {
                return MOST_NAMES - 1;
            }
            names[around] = name;
            around++;
            if (around > draft.functions.fact(function, ABOUT_NAMES)) {
                draft.functions.oneMore(function, ABOUT_NAMES);
            }
            return around - 1;
        }

        private void mustBeginExpression() {
            switch (tokens.sort) {
                case T_LET:
                case T_IF:
                case T_MATCH:
                case T_NUMBER:
                case T_NAME:
                case T_KIND:
                case '(':
                    return;
                default:
                    failForm();
            }
        }

        private void expression(int depth) {
            mustBeginExpression();
            if (depth > MOST_DEEP) {
                failMany();
            }
            switch (tokens.sort) {
                case T_LET:
                    letExpression(depth);
                    break;
                case T_IF:
                    ifExpression(depth);
                    break;
                case T_MATCH:
                    matchExpression(depth);
                    break;
                default:
                    comparison(depth);
            }
        }

        private void letExpression(int depth) {
            draft.code.appendStep(tokens.place);
            tokens.advance();
            newName();
            long name = tokens.word;
            tokens.advance();
            expect('=');
            expression(depth + 1);
            expect(T_IN);
            draft.code.append(OP_LET, tokens.place, tell(name));
            expression(depth + 1);
            around--;
        }

        private void ifExpression(int depth) {
            int place = tokens.place;
            draft.code.appendStep(place);
            tokens.advance();
            expression(depth + 1);
            expect(T_THEN);
            int choice = draft.code.append(OP_IF, place, NONE);
            expression(depth + 1);
            expect(T_ELSE);
            int jump = draft.code.append(OP_JUMP, place, NONE);
            draft.code.a[choice] = jump;
            expression(depth + 1);
            draft.code.a[jump] = draft.code.tail;
        }

        private void matchExpression(int depth) {
            int place = tokens.place;
            draft.code.appendStep(place);
            tokens.advance();
            if (tokens.sort != T_NAME) {
                failForm();
            }
            int slot = slotOf(tokens.word);
            if (slot == NONE) {
                fail(FAULT_UNTOLD, tokens.place);
            }
            tokens.advance();
            expect('{');
            int match = draft.code.append(OP_MATCH, place, slot);
            draft.functions.oneMore(function, ABOUT_MATCHES);
            int last = NONE;
            boolean more = true;
            for (int i = 0; i <= MOST_ARMS && more; i++) {
                last = arm(match, last, i, depth);
                more = draft.arms.kind[last] != ANY_KIND && tokens.sort == '|';
                if (more) {
                    tokens.advance();
                }
            }
            expect('}');
            joinArms(match);
        }

        private void joinArms(int match) {
            int arm = draft.code.b[match];
            for (int i = 0; i < MOST_ARMS && arm != NONE; i++) {
                draft.code.a[draft.arms.leave[arm]] = draft.code.tail;
                arm = draft.arms.next[arm];
            }
        }

        private int arm(int match, int former, int index, int depth) {
            boolean any = tokens.sort == '_';
            if (!any && tokens.sort != T_KIND) {
                failForm();
            }
            if (!any) {
                refuseKindTwice(match);
            }
            if (index >= MOST_ARMS) {
                failMany();
            }
            int scope = around;
            int arm = draft.arms.add(any ? ANY_KIND : kindAtHand(), scope);
            if (former == NONE) {
                draft.code.b[match] = arm;
            } else {
                draft.arms.next[former] = arm;
            }
            if (any) {
                tokens.advance();
            } else {
                pattern(draft.arms.kind[arm]);
            }
            expect(T_ARROW);
            armBody(arm, depth);
            around = scope;
            return arm;
        }

        private void armBody(int arm, int depth) {
            int one = built[1];
            int two = built[2];
            int three = built[3];
            draft.arms.before[arm] = draft.code.tail;
            expression(depth + 1);
            draft.arms.builds[arm] = (built[1] > one ? 2 : 0) | (built[2] > two ? 4 : 0) | (built[3] > three ? 8 : 0);
            draft.arms.leave[arm] = draft.code.append(OP_LEAVE, tokens.place, NONE);
        }

        private void refuseKindTwice(int match) {
            int kind = draft.kinds.find(tokens.word);
            int arm = draft.code.b[match];
            for (int i = 0; i < MOST_ARMS && arm != NONE; i++) {
                if (kind != NONE && draft.arms.kind[arm] == kind) {
                    fail(FAULT_TWICE, tokens.place);
                }
                arm = draft.arms.next[arm];
            }
        }

        private void pattern(int kind) {
            int place = tokens.place;
            int fields = 0;
            tokens.advance();
            if (tokens.sort == '(') {
                boolean more = true;
                while (more && fields <= MOST_FIELDS) {
                    tokens.advance();
                    newName();
                    if (fields >= MOST_FIELDS) {
                        failMany();
                    }
                    tell(tokens.word);
                    tokens.advance();
                    fields++;
                    more = tokens.sort == ',';
                }
                expect(')');
            }
            toldToEnd(kind, fields, place);
        }

        private int kindAtHand() {
            int kind = draft.kinds.find(tokens.word);
            if (kind == NONE && draft.kinds.size >= MOST_KINDS) {
                failMany();
            }
            return kind == NONE ? draft.kinds.add(tokens.word) : kind;
        }

        private void toldToEnd(int kind, int fields, int place) {
            if (draft.kinds.fields[kind] == NONE) {
                draft.kinds.fields[kind] = fields;
            } else if (draft.kinds.fields[kind] != fields) {
                fail(FAULT_FIELDS, place);
            }
        }

        private void comparison(int depth) {
            int before = draft.code.tail;
            sum(depth);
            if (tokens.sort == '<') {
                int place = tokens.place;
                draft.code.insertBehind(before, OP_STEP, place);
                tokens.advance();
                sum(depth);
                draft.code.append(OP_LESS, place, NONE);
            }
        }

        private void sum(int depth) {
            int before = draft.code.tail;
            part(depth);
            for (int i = 0; i < TAPE_BYTES && (tokens.sort == '+' || tokens.sort == '-'); i++) {
                int operation = tokens.sort == '+' ? OP_ADD : OP_SUBTRACT;
                int place = tokens.place;
                draft.code.insertBehind(before, OP_STEP, place);
                tokens.advance();
                part(depth);
                draft.code.append(operation, place, NONE);
            }
        }

        private void part(int depth) {
            int before = draft.code.tail;
            atom(depth);
            for (int i = 0; i < TAPE_BYTES && tokens.sort == '*'; i++) {
                int place = tokens.place;
                draft.code.insertBehind(before, OP_STEP, place);
                tokens.advance();
                atom(depth);
                draft.code.append(OP_MULTIPLY, place, NONE);
            }
        }

        private void atom(int depth) {
            switch (tokens.sort) {
                case T_NUMBER:
                    draft.code.append(OP_NUMBER, tokens.place, (int) tokens.word);
                    tokens.advance();
                    break;
                case T_NAME:
                    nameAtom(depth);
                    break;
                case T_KIND:
                    kindAtom(depth);
                    break;
                case '(':
                    tokens.advance();
                    expression(depth + 1);
                    expect(')');
                    break;
                default:
                    failForm();
            }
        }

        private void nameAtom(int depth) {
            int place = tokens.place;
            int token = tokens.at;
            int slot = slotOf(tokens.word);
            tokens.advance();
            if (tokens.sort == '(') {
                draft.code.appendStep(place);
                int count = arguments(depth, TAPE_BYTES);
                writeCall(OP_CALL, place, token, count);
            } else if (slot != NONE) {
                draft.code.append(OP_NAME, place, slot);
            } else {
                writeCall(OP_CALL_ALONE, place, token, 0);
            }
        }

        /** The function may be told further on: until then the row has its name's token. */
        private void writeCall(int operation, int place, int token, int count) {
            draft.code.b[draft.code.append(operation, place, token)] = count;
        }

        private void kindAtom(int depth) {
            int place = tokens.place;
            int kind = kindAtHand();
            tokens.advance();
            if (tokens.sort == '(') {
                draft.code.appendStep(place);
                int fields = arguments(depth, MOST_FIELDS);
                toldToEnd(kind, fields, place);
                draft.code.append(OP_KIND, place, kind);
                built[fields]++;
                draft.functions.oneMore(function, ABOUT_KINDS);
            } else {
                toldToEnd(kind, 0, place);
                draft.code.append(OP_KIND_ALONE, place, kind);
            }
        }

        private int arguments(int depth, int most) {
            int count = 0;
            boolean more = true;
            while (more && count <= most) {
                tokens.advance();
                mustBeginExpression();
                if (count >= most) {
                    failMany();
                }
                expression(depth + 1);
                count++;
                more = tokens.sort == ',';
            }
            expect(')');
            return count;
        }

        /** Calls are written behind their arguments: the first one from the left is the least place. */
        private void resolveCalls() {
            int number = 0;
            int place = TAPE_BYTES;
            for (int row = 0; row < draft.code.size; row++) {
                int wrong = isCall(row) ? resolveCall(row) : 0;
                if (wrong != 0 && draft.code.place[row] < place) {
                    number = wrong;
                    place = draft.code.place[row];
                }
            }
            if (number != 0) {
                fail(number, place);
            }
        }

        private boolean isCall(int row) {
            return draft.code.op[row] == OP_CALL || draft.code.op[row] == OP_CALL_ALONE;
        }

        private int resolveCall(int row) {
            int f = draft.functions.find(tokens.wordOf(draft.code.a[row]));
            draft.code.a[row] = f;
            if (f == NONE) {
                return FAULT_UNTOLD;
            }
            return draft.functions.fact(f, ABOUT_TOLD) == draft.code.b[row] ? 0 : FAULT_FIELDS;
        }
    }

    /** Goes through the code from its end and marks which names each row needs. */
    private static final class Needs {
        private final int[] order = new int[MOST_CODE];

        void mark(Program program) {
            Code code = program.code;
            int size = 0;
            // The first row written is the first function's entry, and nothing is put ahead of it.
            int row = code.size > 0 ? 0 : NONE;
            while (size < MOST_CODE && row != NONE) {
                order[size] = row;
                size++;
                row = code.next[row];
            }
            for (int i = size - 1; i >= 0; i--) {
                code.needed[order[i]] = neededAt(program, order[i]);
            }
            int function = NONE;
            for (int i = 0; i < size; i++) {
                if (code.op[order[i]] == OP_ENTER) {
                    function = code.a[order[i]];
                } else if (code.op[order[i]] == OP_MATCH) {
                    countShells(program, order[i], function);
                }
            }
        }

        private int neededAt(Program program, int row) {
            Code code = program.code;
            int behind = code.neededBehind(row);
            switch (code.op[row]) {
                case OP_RETURN:
                    return 0;
                case OP_NAME:
                    return behind | 1 << code.a[row];
                case OP_LET:
                    return behind & ~(1 << code.a[row]);
                case OP_IF:
                    return behind | code.neededBehind(code.a[row]);
                case OP_JUMP:
                case OP_LEAVE:
                    return code.neededBehind(code.a[row]);
                case OP_MATCH:
                    return 1 << code.a[row] | neededInArms(program, code.b[row]);
                default:
                    return behind;
            }
        }

        private int neededInArms(Program program, int first) {
            int needed = 0;
            int arm = first;
            for (int i = 0; i < MOST_ARMS && arm != NONE; i++) {
                int fields = (1 << program.armFields(arm)) - 1 << program.arms.firstSlot[arm];
                needed |= program.code.neededBehind(program.arms.before[arm]) & ~fields;
                arm = program.arms.next[arm];
            }
            return needed;
        }

        private void countShells(Program program, int match, int function) {
            int arm = program.code.b[match];
            for (int i = 0; i < MOST_ARMS && arm != NONE; i++) {
                int inArm = program.code.neededBehind(program.arms.before[arm]);
                boolean gone = (inArm >> program.code.a[match] & 1) == 0;
                if (gone && program.armFields(arm) > 0 && program.buildsAsMany(arm)) {
                    program.functions.oneMore(function, ABOUT_SHELLS);
                }
                arm = program.arms.next[arm];
            }
        }
    }

    /** Cells, and the values that may lie in them: what a value is stands above its 32 low bits. */
    private static final class Cells {
        private static final long LOW = 0xFFFFFFFFL;
        private static final long IS_KIND = 1L << 32;
        private static final long IS_CELL = 2L << 32;

        final int[] kind;
        /** A cell that is free, or is to be freed, has no count: the next one of its chain stands there. */
        final int[] count;
        private final long[] fields;
        Kinds kinds;
        private int limit = 0;
        private int fresh = 0;
        private int firstFree = NONE;
        int held = 0;
        int mostHeld = 0;
        int made = 0;
        int reused = 0;
        int freed = 0;
        int doubled = 0;

        Cells(int size) {
            int rows = Math.max(0, size);
            this.kind = new int[rows];
            this.count = new int[rows];
            this.fields = new long[rows * MOST_FIELDS];
            this.kinds = new Kinds();
        }

        void begin(Kinds ofProgram, int most) {
            kinds = ofProgram;
            limit = Math.min(most, kind.length);
            fresh = 0;
            firstFree = NONE;
            held = 0;
            mostHeld = 0;
            made = 0;
            reused = 0;
            freed = 0;
            doubled = 0;
        }

        static long ofInt(int number) {
            return number & LOW;
        }

        static long ofKind(int kind) {
            return IS_KIND | kind & LOW;
        }

        static long ofCell(int cell) {
            return IS_CELL | cell & LOW;
        }

        static boolean isInt(long value) {
            return value >>> 32 == 0;
        }

        static boolean isCell(long value) {
            return value >>> 32 == 2;
        }

        int kindOf(long value) {
            if (isInt(value)) {
                return NONE;
            }
            return isCell(value) ? kind[(int) value] : (int) value;
        }

        int width(int cell) {
            return kinds.fieldsOf(kind[cell]);
        }

        long field(int cell, int i) {
            return fields[cell * MOST_FIELDS + i];
        }

        /** A free cell, or NONE if all are held. */
        int take() {
            if (held >= limit) {
                return NONE;
            }
            int cell = firstFree;
            if (cell == NONE) {
                cell = fresh;
                fresh++;
            } else {
                firstFree = count[cell];
            }
            made++;
            held++;
            mostHeld = Math.max(mostHeld, held);
            return cell;
        }

        void fill(int cell, int ofKind, long[] from, int first) {
            kind[cell] = ofKind;
            count[cell] = 1;
            for (int i = 0; i < width(cell); i++) {
                fields[cell * MOST_FIELDS + i] = from[first + i];
            }
        }

        void copy(long value) {
            if (isCell(value)) {
                count[(int) value]++;
                doubled++;
            }
        }

        void free(int cell) {
            count[cell] = firstFree;
            firstFree = cell;
            held--;
            freed++;
        }

        void drop(long value) {
            int doomed = lower(value, NONE);
            for (int i = 0; i < kind.length && doomed != NONE; i++) {
                int cell = doomed;
                doomed = count[cell];
                for (int k = 0; k < width(cell); k++) {
                    doomed = lower(field(cell, k), doomed);
                }
                free(cell);
            }
        }

        /** Takes one off a cell's count; at 0 it goes ahead of the chain of the doomed, which is answered. */
        private int lower(long value, int doomed) {
            if (!isCell(value)) {
                return doomed;
            }
            int cell = (int) value;
            count[cell]--;
            if (count[cell] > 0) {
                return doomed;
            }
            count[cell] = doomed;
            return cell;
        }
    }

    /** Works a function's code, with its cells counted or plainly. */
    private static final class Machine {
        private Program program;
        private Code code;
        private Cells cells;
        private boolean counted = true;
        private final long[] stack = new long[STACK];
        private int top = 0;
        private int base = 0;
        private final int[] callBase = new int[MOST_CALLS];
        private final int[] callBack = new int[MOST_CALLS];
        private final int[] callShells = new int[MOST_CALLS];
        private int open = 0;
        private final int[] shells = new int[SHELL_ROWS];
        private int shellTop = 0;
        private int at = NONE;
        private int allowed = 0;
        int steps = 0;
        int mostOpen = 0;
        int how = 0;
        int stopPlace = NONE;
        long result = 0;

        Machine(Program program) {
            this.program = program;
            this.code = program.code;
            this.cells = new Cells(0);
        }

        void begin(Program ofHouse, Cells withCells, boolean countCells, int mostSteps) {
            program = ofHouse;
            code = ofHouse.code;
            cells = withCells;
            counted = countCells;
            allowed = mostSteps;
            top = 0;
            base = 0;
            open = 0;
            shellTop = 0;
            steps = 0;
            mostOpen = 0;
            how = 0;
            stopPlace = NONE;
            result = 0;
        }

        /** The names told stand on the stack already. */
        void work(int f) {
            openCall(f, NONE);
            for (int i = 0; i < MOST_TURNS && how == 0 && at != NONE; i++) {
                turn(at);
            }
        }

        private void turn(int row) {
            at = code.next[row];
            switch (code.op[row]) {
                case OP_ENTER:
                    dropNames(toldBits(code.a[row]) & ~code.neededBehind(row));
                    break;
                case OP_STEP:
                    step(row);
                    break;
                case OP_NUMBER:
                    number(row);
                    break;
                case OP_NAME:
                    useName(row);
                    break;
                case OP_KIND_ALONE:
                    kindAlone(row);
                    break;
                case OP_KIND:
                    build(row);
                    break;
                case OP_CALL_ALONE:
                    callAlone(row);
                    break;
                case OP_CALL:
                    call(row);
                    break;
                case OP_LET:
                    bind(row);
                    break;
                case OP_IF:
                    choose(row);
                    break;
                case OP_JUMP:
                    goBehind(code.a[row]);
                    break;
                case OP_MATCH:
                    match(row);
                    break;
                case OP_LEAVE:
                    leaveArm(row);
                    break;
                case OP_RETURN:
                    closeCall();
                    break;
                default:
                    sign(row);
            }
        }

        void push(long value) {
            if (top < STACK) {
                stack[top] = value;
                top++;
            }
        }

        private long pop() {
            if (top > 0) {
                top--;
            }
            return stack[top];
        }

        private void stop(int outcome, int row) {
            how = outcome;
            stopPlace = code.place[row];
        }

        private boolean step(int row) {
            if (steps >= allowed) {
                stop(CUT, row);
                return false;
            }
            steps++;
            return true;
        }

        private void goBehind(int row) {
            at = row == NONE ? NONE : code.next[row];
        }

        private static boolean has(int names, int slot) {
            return (names >> slot & 1) == 1;
        }

        private int toldBits(int f) {
            return (1 << program.functions.fact(f, ABOUT_TOLD)) - 1;
        }

        private void dropNames(int names) {
            if (!counted) {
                return;
            }
            for (int slot = 0; slot < MOST_NAMES && names >> slot != 0; slot++) {
                if (has(names, slot)) {
                    cells.drop(stack[base + slot]);
                }
            }
        }

        private void number(int row) {
            if (step(row)) {
                push(Cells.ofInt(code.a[row]));
            }
        }

        private void kindAlone(int row) {
            if (step(row)) {
                push(Cells.ofKind(code.a[row]));
            }
        }

        private void callAlone(int row) {
            if (step(row)) {
                call(row);
            }
        }

        private void useName(int row) {
            if (!step(row)) {
                return;
            }
            int slot = code.a[row];
            long value = stack[base + slot];
            if (counted && has(code.neededBehind(row), slot)) {
                cells.copy(value);
            }
            push(value);
        }

        private void bind(int row) {
            int slot = code.a[row];
            stack[base + slot] = pop();
            dropNames(1 << slot & ~code.neededBehind(row));
        }

        private void choose(int row) {
            long value = pop();
            if (!Cells.isInt(value)) {
                stop(STUCK, row);
                return;
            }
            int inThen = code.neededBehind(row);
            int inElse = code.neededBehind(code.a[row]);
            if ((int) value != 0) {
                dropNames(inElse & ~inThen);
            } else {
                goBehind(code.a[row]);
                dropNames(inThen & ~inElse);
            }
        }

        private void sign(int row) {
            long right = pop();
            long left = pop();
            if (!Cells.isInt(left) || !Cells.isInt(right)) {
                stop(STUCK, row);
                return;
            }
            push(Cells.ofInt(reckon(code.op[row], (int) left, (int) right)));
        }

        private static int reckon(int operation, int left, int right) {
            switch (operation) {
                case OP_ADD:
                    return left + right;
                case OP_SUBTRACT:
                    return left - right;
                case OP_MULTIPLY:
                    return left * right;
                default:
                    return left < right ? 1 : 0;
            }
        }

        private void call(int row) {
            if (open >= MOST_CALLS) {
                stop(DEEP, row);
            } else {
                openCall(code.a[row], code.next[row]);
            }
        }

        /** The arguments on the stack become the first rows of the call's names. */
        private void openCall(int f, int back) {
            if (open >= MOST_CALLS || !program.functions.has(f)) {
                return;
            }
            base = Math.max(0, top - program.functions.fact(f, ABOUT_TOLD));
            top = Math.min(STACK, base + program.functions.fact(f, ABOUT_NAMES));
            callBase[open] = base;
            callBack[open] = back;
            callShells[open] = shellTop;
            open++;
            mostOpen = Math.max(mostOpen, open);
            at = program.functions.enter[f];
        }

        private void closeCall() {
            long value = pop();
            if (open <= 1) {
                result = value;
                how = ENDED;
                return;
            }
            open--;
            top = base;
            push(value);
            at = callBack[open];
            base = callBase[open - 1];
        }

        private void build(int row) {
            int kind = code.a[row];
            int width = program.kinds.fieldsOf(kind);
            int cell = takeShell(width);
            if (cell == NONE) {
                cell = cells.take();
            } else {
                cells.reused++;
            }
            if (cell == NONE) {
                stop(FULL, row);
                return;
            }
            top = Math.max(0, top - width);
            cells.fill(cell, kind, stack, top);
            push(Cells.ofCell(cell));
        }

        /** A shell that is taken leaves its row to the arm that kept it. */
        private int takeShell(int width) {
            int lowest = open > 0 ? callShells[open - 1] : 0;
            for (int i = shellTop - 1; i >= lowest; i--) {
                int cell = shells[i];
                if (cell != NONE && cells.width(cell) == width) {
                    shells[i] = NONE;
                    return cell;
                }
            }
            return NONE;
        }

        private void match(int row) {
            int slot = code.a[row];
            long value = stack[base + slot];
            int arm = fittingArm(code.b[row], cells.kindOf(value));
            if (arm == NONE) {
                stop(STUCK, row);
                return;
            }
            goBehind(program.arms.before[arm]);
            if (!counted) {
                bindPlainly(arm, value);
                keepShell(NONE);
                return;
            }
            int needed = code.neededBehind(program.arms.before[arm]);
            boolean stays = has(needed, slot);
            int shell = NONE;
            if (program.arms.kind[arm] != ANY_KIND) {
                shell = Cells.isCell(value) ? takeApart(arm, (int) value, needed, stays) : NONE;
            } else if (!stays) {
                cells.drop(value);
            }
            keepShell(shell);
            dropNames(code.needed[row] & ~needed & ~(1 << slot));
        }

        private int fittingArm(int first, int kind) {
            int arm = first;
            for (int i = 0; i < MOST_ARMS && arm != NONE; i++) {
                int wanted = program.arms.kind[arm];
                if (wanted == ANY_KIND || wanted == kind) {
                    return arm;
                }
                arm = program.arms.next[arm];
            }
            return NONE;
        }

        private void bindPlainly(int arm, long value) {
            for (int i = 0; i < program.armFields(arm) && Cells.isCell(value); i++) {
                stack[base + program.arms.firstSlot[arm] + i] = cells.field((int) value, i);
            }
        }

        /** Gives the arm its fields; the answer is the cell if it is kept as a shell, else NONE. */
        private int takeApart(int arm, int cell, int needed, boolean stays) {
            boolean alone = !stays && cells.count[cell] == 1;
            for (int i = 0; i < program.armFields(arm); i++) {
                int slot = program.arms.firstSlot[arm] + i;
                long field = cells.field(cell, i);
                if (has(needed, slot)) {
                    stack[base + slot] = field;
                    if (!alone) {
                        cells.copy(field);
                    }
                } else if (alone) {
                    cells.drop(field);
                }
            }
            if (alone && program.buildsAsMany(arm)) {
                return cell;
            }
            if (alone) {
                cells.free(cell);
            } else if (!stays) {
                cells.count[cell]--;
            }
            return NONE;
        }

        private void keepShell(int cell) {
            if (shellTop < SHELL_ROWS) {
                shells[shellTop] = cell;
                shellTop++;
            }
        }

        private void leaveArm(int row) {
            goBehind(code.a[row]);
            if (shellTop > 0) {
                shellTop--;
                if (shells[shellTop] != NONE) {
                    cells.free(shells[shellTop]);
                }
            }
        }
    }

    /** Writes values out, in a spare row first, so that what is too long leaves the former one. */
    private static final class Printer {
        // A cell that is open has two bytes written at least.
        private static final int MOST_OPEN = OUT_BYTES / 2;

        byte[] bytes = new byte[OUT_BYTES];
        private int size = 0;
        private byte[] spare = new byte[OUT_BYTES];
        private int spareSize = 0;
        private boolean tooLong = false;
        private final int[] openCell = new int[MOST_OPEN];
        private final int[] openField = new int[MOST_OPEN];
        private int open = 0;

        boolean has(int i) {
            return i >= 0 && i < size;
        }

        int print(long value, Cells cells) {
            spareSize = 0;
            tooLong = false;
            open = 0;
            putValue(value, cells);
            // Each turn writes a byte at least.
            for (int i = 0; i <= OUT_BYTES && open > 0 && !tooLong; i++) {
                putNextField(cells);
            }
            if (tooLong) {
                return NONE;
            }
            byte[] former = bytes;
            bytes = spare;
            spare = former;
            size = spareSize;
            return size;
        }

        private void putNextField(Cells cells) {
            int cell = openCell[open - 1];
            int field = openField[open - 1];
            if (field >= cells.width(cell)) {
                put(')');
                open--;
                return;
            }
            if (field > 0) {
                put(',');
            }
            openField[open - 1] = field + 1;
            putValue(cells.field(cell, field), cells);
        }

        private void putValue(long value, Cells cells) {
            if (Cells.isInt(value)) {
                putInt((int) value);
                return;
            }
            putKind(cells.kinds.wordOf(cells.kindOf(value)));
            if (Cells.isCell(value)) {
                put('(');
                openFields((int) value);
            }
        }

        private void openFields(int cell) {
            if (open >= MOST_OPEN) {
                tooLong = true;
                return;
            }
            openCell[open] = cell;
            openField[open] = 0;
            open++;
        }

        private void putKind(long word) {
            for (int shift = 56; shift >= 0; shift -= 8) {
                int sign = (int) (word >>> shift) & 255;
                if (sign != 0) {
                    put(sign);
                }
            }
        }

        private void putInt(int number) {
            long rest = number;
            if (rest < 0) {
                put('-');
                rest = -rest;
            }
            long unit = 1000000000L;
            while (unit > 1 && unit > rest) {
                unit /= 10;
            }
            for (; unit > 0; unit /= 10) {
                put('0' + (int) (rest / unit % 10));
            }
        }

        private void put(int sign) {
            if (spareSize < OUT_BYTES) {
                spare[spareSize] = (byte) sign;
                spareSize++;
            } else {
                tooLong = true;
            }
        }
    }
}
