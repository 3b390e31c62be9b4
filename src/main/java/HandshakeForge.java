import java.util.Arrays;

/** Programs with parallel branches and channels, as a circuit of parts that ask and answer each other. */
public final class HandshakeForge {
    public static final int REFUSED = -1, NONE = -2, FULL = -3;

    private static final long NO_VALUE = 1L << 40;
    private static final int TAPE_SIZE = 2000, MOST_STEPS = 20000, DEEPEST = 20, MOST_NUMBER = 65535;
    private static final int MOST_VARIABLES = 24, MOST_ARRAYS = 6, MOST_CHANS = 8, MOST_INS = 4, MOST_OUTS = 4;
    private static final int MOST_ROUTINES = 12, MOST_PARAMETERS = 4, MOST_BRANCHES = 6;
    private static final int ARRAY_SIZE = 64, QUEUE_SIZE = 40;
    private static final int MOST_NAMES =
            MOST_VARIABLES + MOST_ARRAYS + MOST_CHANS + MOST_INS + MOST_OUTS + MOST_ROUTINES;
    /** Every part has a byte of the text to itself, so there are never more parts than bytes. */
    private static final int MOST_PARTS = TAPE_SIZE;
    private static final int LINES = MOST_CHANS + MOST_OUTS;
    /** Far above what a run can need: a part is turned to once when begun and once for each part it began. */
    private static final int MOST_TURNS = 1000000;

    // Kinds of tokens. A sign is its own character, a sign of two is both of them.
    private static final int NAME = 1, NUMBER = 2, END = 3, BAD = 4;
    private static final int BOTH = '&' << 8 | '&', EITHER = '|' << 8 | '|';
    private static final int SAME = '=' << 8 | '=', OTHER = '!' << 8 | '=';
    private static final int AT_MOST = '<' << 8 | '=', AT_LEAST = '>' << 8 | '=';
    private static final int LEFT = '<' << 8 | '<', RIGHT = '>' << 8 | '>';
    private static final String WORDS =
            "var int array chan in out proc fun if else while repeat par return skip ";
    private static final int WORD_COUNT = 15;
    private static final int VAR = 300, INT = 301, ARRAY = 302, CHAN = 303, IN = 304, OUT = 305, PROC = 306;
    private static final int FUN = 307, IF = 308, ELSE = 309, WHILE = 310, REPEAT = 311, PAR = 312;
    private static final int RETURN = 313, SKIP = 314;

    // What a name can mean. The first six are the places of their numbers in Circuit.counts, too.
    private static final int A_VARIABLE = 0, AN_ARRAY = 1, A_CHAN = 2, AN_IN = 3, AN_OUT = 4, A_PROC = 5, A_FUN = 6;
    private static final int COUNTS = 6;

    // Kinds of parts that no token kind of the same name tells.
    private static final int READ = 400, ITEM = 401, SIGN_ONE = 402, SIGN_TWO = 403, CALL = 404, SET = 405;
    private static final int SEND = 406, RECEIVE = 407, BLOCK = 408;

    private static final int READY = 0, ENDED = 1, WAITS = 2, LOST = 3;

    private final Tape tape = new Tape();
    private Circuit circuit = new Circuit();
    /** What the next text is compiled into, so that one with a fault leaves the circuit as it is. */
    private Circuit spare = new Circuit();
    private boolean made = false;
    private final Compiler compiler = new Compiler(tape, spare);
    private final Work work = new Work(circuit);

    public HandshakeForge() {
    }

    public int feed(int a, int b, int c, int d, int e) {
        if (tape.size + 20 > TAPE_SIZE) {
            return FULL;
        }
        tape.add(a);
        tape.add(b);
        tape.add(c);
        tape.add(d);
        tape.add(e);
        return tape.size;
    }

    public int end(int n) {
        if (n < 0 || n > tape.size) {
            return REFUSED;
        }
        tape.size = n;
        return n;
    }

    public int compile() {
        int answer = NONE;
        try {
            compiler.program(spare);
            answer = compiler.parFault;
        } catch (IllegalStateException fault) {
            answer = compiler.fault;
        }
        tape.size = 0;
        if (answer == NONE) {
            Circuit former = circuit;
            circuit = spare;
            spare = former;
            made = true;
            work.restart(circuit);
        }
        return answer;
    }

    public int begin() {
        if (!made) {
            return NONE;
        }
        work.restart(circuit);
        return 0;
    }

    public int run(int n) {
        if (!made) {
            return NONE;
        }
        if (n < 1 || n > MOST_STEPS || work.state == LOST) {
            return REFUSED;
        }
        work.goOn(n);
        return work.state;
    }

    public int give(int in, int v) {
        if (!made || work.state == LOST || in < 0 || in >= circuit.counts[AN_IN]) {
            return NONE;
        }
        Queue queue = work.ins[in];
        return queue.add((short) v) ? queue.size : FULL;
    }

    public long take(int out) {
        if (!made || work.state == LOST || out < 0 || out >= circuit.counts[AN_OUT]) {
            return NO_VALUE;
        }
        Queue queue = work.outs[out];
        return queue.size > 0 ? queue.remove() : NO_VALUE;
    }

    public long look(int k) {
        long word = tape.word();
        tape.size = 0;
        if (!made || work.state == LOST) {
            return NO_VALUE;
        }
        Names names = circuit.names;
        int name = names.find(word, 0);
        if (names.kind(name) == A_VARIABLE) {
            return work.variable(names.number(name));
        }
        return names.kind(name) == AN_ARRAY ? work.item(names.number(name), k) : NO_VALUE;
    }

    public int count(int what) {
        if (what < 0 || what > 12) {
            return REFUSED;
        }
        if (!made) {
            return 0;
        }
        if (what == 0) {
            return circuit.parts;
        }
        if (what <= COUNTS) {
            return circuit.counts[what - 1];
        }
        if (what == 7) {
            return work.steps;
        }
        if (what == 8) {
            return work.state;
        }
        return work.state == LOST ? 0 : work.outs[what - 9].size;
    }

    /** The bytes that have come and not yet been read. */
    private static final class Tape {
        private final byte[] bytes = new byte[TAPE_SIZE];
        private int size = 0;

        void add(int four) {
            for (int shift = 24; shift >= 0 && size < TAPE_SIZE; shift -= 8) {
                bytes[size] = (byte) (four >> shift);
                size++;
            }
        }

        /** The byte at a place, -1 behind the last one. */
        int at(int place) {
            return place >= 0 && place < size ? bytes[place] & 255 : -1;
        }

        /** The whole tape packed as names are, 0 if it can't be a name. */
        long word() {
            long word = 0;
            for (int i = 0; i < size; i++) {
                if (i == 8 || !inName(at(i))) {
                    return 0;
                }
                word = word << 8 | at(i);
            }
            return word;
        }

        static boolean isLetter(int c) {
            return c >= 'a' && c <= 'z';
        }

        static boolean isDigit(int c) {
            return c >= '0' && c <= '9';
        }

        static boolean inName(int c) {
            return isLetter(c) || isDigit(c);
        }
    }

    /** The tape as tokens, read all at once; one of them is at hand. */
    private static final class Tokens {
        private final Tape tape;
        private final long[] words = new long[WORD_COUNT];
        private final int[] kinds = new int[TAPE_SIZE + 1];
        private final int[] places = new int[TAPE_SIZE + 1];
        /** A number, or a name packed. */
        private final long[] values = new long[TAPE_SIZE + 1];
        private int at = 0;
        private int next = 0;

        Tokens(Tape tape) {
            this.tape = tape;
            int word = 0;
            for (int i = 0; i < WORDS.length() && word < WORD_COUNT; i++) {
                if (WORDS.charAt(i) == ' ') {
                    word++;
                } else {
                    words[word] = words[word] << 8 | WORDS.charAt(i);
                }
            }
        }

        int kind() {
            return at >= 0 && at <= TAPE_SIZE ? kinds[at] : END;
        }

        int place() {
            return at >= 0 && at <= TAPE_SIZE ? places[at] : 0;
        }

        long value() {
            return at >= 0 && at <= TAPE_SIZE ? values[at] : 0;
        }

        void step() {
            if (at >= 0 && at < TAPE_SIZE && kinds[at] != END && kinds[at] != BAD) {
                at++;
            }
        }

        /** Reads till the end or the first token that is none: no text goes on behind that. */
        void scan() {
            next = 0;
            int last = NAME;
            for (at = 0; at <= TAPE_SIZE && last != END && last != BAD; at++) {
                last = scanToken();
                kinds[at] = last;
            }
            at = 0;
        }

        private int scanToken() {
            while (next < tape.size && (tape.at(next) == 32 || tape.at(next) == 10)) {
                next++;
            }
            places[at] = next;
            int c = tape.at(next);
            if (c < 0) {
                return END;
            }
            if (Tape.isLetter(c)) {
                return scanName();
            }
            return Tape.isDigit(c) ? scanNumber() : scanSign(c);
        }

        private int scanName() {
            int start = next;
            long word = 0;
            while (next < tape.size && Tape.inName(tape.at(next))) {
                word = word << 8 | tape.at(next);
                next++;
            }
            values[at] = word;
            if (next - start > 8) {
                return BAD;
            }
            for (int i = 0; i < WORD_COUNT; i++) {
                if (words[i] == word) {
                    return VAR + i;
                }
            }
            return NAME;
        }

        private int scanNumber() {
            long number = 0;
            while (next < tape.size && Tape.isDigit(tape.at(next))) {
                number = Math.min(number * 10 + tape.at(next) - '0', MOST_NUMBER + 1);
                next++;
            }
            values[at] = number;
            return number > MOST_NUMBER ? BAD : NUMBER;
        }

        private int scanSign(int c) {
            int second = tape.at(next + 1);
            boolean doubled = second == c && (c == '&' || c == '|' || c == '=' || c == '<' || c == '>');
            boolean withEqual = second == '=' && (c == '!' || c == '<' || c == '>');
            if (doubled || withEqual) {
                next += 2;
                return c << 8 | second;
            }
            next++;
            return isSign(c) ? c : BAD;
        }

        private static boolean isSign(int c) {
            switch (c) {
                case '{': case '}': case '(': case ')': case '[': case ']': case ',': case ';': case ':':
                case '=': case '+': case '-': case '*': case '/': case '%': case '&': case '|': case '^':
                case '~': case '!': case '?': case '<': case '>':
                    return true;
                default:
                    return false;
            }
        }
    }

    /** Names and what they mean, the innermost last. */
    private static final class Names {
        private final long[] words = new long[MOST_NAMES];
        private final int[] kinds = new int[MOST_NAMES];
        private final int[] numbers = new int[MOST_NAMES];
        private int size = 0;

        /** The place of the last such name at or behind a place, -1 if there is none. */
        int find(long word, int from) {
            int found = -1;
            for (int i = Math.max(from, 0); i < size; i++) {
                if (words[i] == word) {
                    found = i;
                }
            }
            return found;
        }

        void add(long word, int kind, int number) {
            if (size < MOST_NAMES) {
                words[size] = word;
                kinds[size] = kind;
                numbers[size] = number;
                size++;
            }
        }

        void cut(int newSize) {
            if (newSize >= 0 && newSize < size) {
                size = newSize;
            }
        }

        int kind(int name) {
            return name >= 0 && name < size ? kinds[name] : -1;
        }

        int number(int name) {
            return name >= 0 && name < size ? numbers[name] : -1;
        }
    }

    /** What a text was compiled into: its parts, and what it declares. */
    private static final class Circuit {
        private final int[] kind = new int[MOST_PARTS];
        private final int[] a = new int[MOST_PARTS];
        private final int[] b = new int[MOST_PARTS];
        private final int[] c = new int[MOST_PARTS];
        /** The part that follows in a row of statements, arguments or branches, -1 behind the last. */
        private final int[] next = new int[MOST_PARTS];
        private final Names names = new Names();
        private final int[] counts = new int[COUNTS];
        /** The bits of a var, 0 for an int. */
        private final int[] bits = new int[MOST_VARIABLES];
        private final int[] sizes = new int[MOST_ARRAYS];
        private final int[] parameters = new int[MOST_ROUTINES];
        private final int[] firstParameter = new int[MOST_ROUTINES];
        private final int[] body = new int[MOST_ROUTINES];
        private int parts = 0;
        private int main = -1;

        void clear() {
            names.cut(0);
            Arrays.fill(counts, 0);
            parts = 0;
            main = -1;
        }

        int add(int newKind, int newA, int newB, int newC) {
            if (parts >= MOST_PARTS) {
                return -1;
            }
            kind[parts] = newKind;
            a[parts] = newA;
            b[parts] = newB;
            c[parts] = newC;
            next[parts] = -1;
            parts++;
            return parts - 1;
        }

        void link(int part, int follower) {
            if (has(part)) {
                next[part] = follower;
            }
        }

        boolean has(int part) {
            return part >= 0 && part < parts;
        }

        void setBits(int variable, int n) {
            if (variable >= 0 && variable < MOST_VARIABLES) {
                bits[variable] = n;
            }
        }

        void setSize(int array, int n) {
            if (array >= 0 && array < MOST_ARRAYS) {
                sizes[array] = n;
            }
        }

        void setParameters(int routine, int first, int n) {
            if (routine >= 0 && routine < MOST_ROUTINES) {
                firstParameter[routine] = first;
                parameters[routine] = n;
            }
        }

        int parameters(int routine) {
            return routine >= 0 && routine < MOST_ROUTINES ? parameters[routine] : 0;
        }

        int firstParameter(int routine) {
            return routine >= 0 && routine < MOST_ROUTINES ? firstParameter[routine] : 0;
        }

        int body(int routine) {
            return routine >= 0 && routine < MOST_ROUTINES ? body[routine] : -1;
        }

        int follower(int part) {
            return has(part) ? next[part] : -1;
        }

        /** Sizes are powers of two, so the lowest bits are the place modulo the size, too. */
        int placeIn(int array, int subscript) {
            return array >= 0 && array < MOST_ARRAYS && sizes[array] > 0 ? subscript & sizes[array] - 1 : 0;
        }
    }

    /** Reads the tokens once, from the first to the last, and adds a part as soon as its own parts are read. */
    private static final class Compiler {
        private static final int[] LIMITS = {
            MOST_VARIABLES, MOST_ARRAYS, MOST_CHANS, MOST_INS, MOST_OUTS, MOST_ROUTINES};
        /** At each depth at most ten signs, one of each level, wait for their right E. */
        private static final int MOST_PENDING = 10 * (DEEPEST + 1);

        private final Tokens tokens;
        private Circuit circuit;
        private int fault = 0;
        /** The place of the first par at fault, NONE if there is none. */
        private int parFault = NONE;
        private final int[] pendingSign = new int[MOST_PENDING];
        private final int[] pendingLeft = new int[MOST_PENDING];
        private int pending = 0;
        /** Variables and arrays used and assigned to since the branch or routine began, one bit each. */
        private long used = 0;
        private long assigned = 0;
        /** What but one branch may do: send to a line, receive from a line, call a routine. */
        private long single = 0;
        private final long[] usedBy = new long[MOST_ROUTINES];
        private final long[] assignedBy = new long[MOST_ROUTINES];
        private final long[] singleBy = new long[MOST_ROUTINES];
        /** The routine that is being read, -1 outside. */
        private int self = -1;
        /** In a fun: where its own names begin; else 0. */
        private int ownFrom = 0;
        private int lastOfRow = -1;
        private int sizeOfRow = 0;

        Compiler(Tape tape, Circuit circuit) {
            tokens = new Tokens(tape);
            this.circuit = circuit;
        }

        void program(Circuit target) {
            circuit = target;
            circuit.clear();
            parFault = NONE;
            pending = 0;
            self = -1;
            ownFrom = 0;
            tokens.scan();
            for (int i = 0; i < TAPE_SIZE && tokens.kind() >= VAR && tokens.kind() <= FUN; i++) {
                int word = tokens.kind();
                tokens.step();
                if (word == PROC || word == FUN) {
                    int routine = routineHead(word == FUN ? A_FUN : A_PROC);
                    int bottom = circuit.names.size - circuit.parameters(routine);
                    routineFoot(routine, word == FUN ? funBody(bottom) : block(0, bottom));
                } else {
                    shortDeclaration(word);
                }
            }
            circuit.main = block(0, circuit.names.size);
            check(tokens.kind() == END, tokens.place());
        }

        private void shortDeclaration(int word) {
            switch (word) {
                case VAR:
                    int variable = declare(A_VARIABLE, 0);
                    expect(':');
                    circuit.setBits(variable, number(1, 16));
                    break;
                case INT:
                    circuit.setBits(declare(A_VARIABLE, 0), 0);
                    break;
                case ARRAY:
                    int array = declare(AN_ARRAY, 0);
                    expect('[');
                    int place = tokens.place();
                    int size = number(1, ARRAY_SIZE);
                    check(Integer.bitCount(size) == 1, place);
                    circuit.setSize(array, size);
                    expect(']');
                    break;
                case CHAN:
                    declare(A_CHAN, 0);
                    break;
                case IN:
                    declare(AN_IN, 0);
                    break;
                default:
                    declare(AN_OUT, 0);
                    break;
            }
            expect(';');
        }

        /** The name and parameters of a proc or fun; what its body does is gathered from here on. */
        private int routineHead(int kind) {
            int routine = declare(kind, 0);
            int bottom = circuit.names.size;
            int firstParameter = circuit.counts[A_VARIABLE];
            expect('(');
            int n = tokens.kind() == ')' ? 0 : parameters(bottom);
            expect(')');
            circuit.setParameters(routine, firstParameter, n);
            self = routine;
            ownFrom = kind == A_FUN ? bottom : 0;
            used = 0;
            assigned = 0;
            single = 0;
            return routine;
        }

        private int parameters(int bottom) {
            declareInt(bottom);
            int n = 1;
            while (n < TAPE_SIZE && tokens.kind() == ',') {
                tokens.step();
                check(n < MOST_PARAMETERS, tokens.place());
                declareInt(bottom);
                n++;
            }
            return n;
        }

        private void routineFoot(int routine, int body) {
            self = -1;
            ownFrom = 0;
            if (routine >= 0 && routine < MOST_ROUTINES) {
                circuit.body[routine] = body;
                long parameters = (1L << circuit.parameters[routine]) - 1 << circuit.firstParameter[routine];
                usedBy[routine] = used | parameters;
                assignedBy[routine] = assigned | parameters;
                singleBy[routine] = single;
            }
        }

        /** The statements of a fun and its E, in a row. */
        private int funBody(int bottom) {
            expect('{');
            ints(bottom);
            int first = row(RETURN, 0);
            int last = lastOfRow;
            expect(RETURN);
            int value = expression(0);
            circuit.link(last, value);
            expect(';');
            expect('}');
            circuit.names.cut(bottom);
            return first < 0 ? value : first;
        }

        /** A block whose names begin at bottom; a proc's parameters lie there already. */
        private int block(int depth, int bottom) {
            expect('{');
            ints(bottom);
            int first = row('}', depth);
            int size = sizeOfRow;
            expect('}');
            circuit.names.cut(bottom);
            if (size == 1) {
                return first;
            }
            return circuit.add(size == 0 ? SKIP : BLOCK, first, -1, -1);
        }

        private void ints(int bottom) {
            for (int i = 0; i < TAPE_SIZE && tokens.kind() == INT; i++) {
                tokens.step();
                declareInt(bottom);
                expect(';');
            }
        }

        /** The statements before a token: the first, with the others linked behind it; -1 if there is none. */
        private int row(int stop, int depth) {
            int first = -1;
            int last = -1;
            int size = 0;
            while (size < TAPE_SIZE && tokens.kind() != stop) {
                int part = statement(depth + 1);
                circuit.link(last, part);
                first = size == 0 ? part : first;
                last = part;
                size++;
            }
            lastOfRow = last;
            sizeOfRow = size;
            return first;
        }

        private int statement(int depth) {
            check(depth <= DEEPEST, tokens.place());
            switch (tokens.kind()) {
                case '{':
                    return block(depth, circuit.names.size);
                case SKIP:
                    tokens.step();
                    expect(';');
                    return circuit.add(SKIP, -1, -1, -1);
                case IF:
                    return choice(depth);
                case WHILE:
                    int condition = condition(depth);
                    return circuit.add(WHILE, condition, statement(depth + 1), -1);
                case REPEAT:
                    tokens.step();
                    int times = number(0, MOST_NUMBER);
                    return circuit.add(REPEAT, times, statement(depth + 1), -1);
                case PAR:
                    return branches(depth);
                default:
                    return namedStatement(depth);
            }
        }

        private int choice(int depth) {
            int condition = condition(depth);
            int yes = statement(depth + 1);
            int no = -1;
            if (tokens.kind() == ELSE) {
                tokens.step();
                no = statement(depth + 1);
            }
            return circuit.add(IF, condition, yes, no);
        }

        private int branches(int depth) {
            int place = tokens.place();
            long usedBefore = used;
            long assignedBefore = assigned;
            long singleBefore = single;
            long usedHere = 0;
            long assignedHere = 0;
            long singleHere = 0;
            boolean clash = false;
            int first = -1;
            int last = -1;
            int n = 0;
            tokens.step();
            while (n < 2 || n < MOST_BRANCHES && tokens.kind() == '|') {
                expect(n == 0 ? '{' : '|');
                used = 0;
                assigned = 0;
                single = 0;
                int part = statement(depth + 1);
                circuit.link(last, part);
                first = n == 0 ? part : first;
                last = part;
                clash |= (assigned & usedHere | used & assignedHere | single & singleHere) != 0;
                usedHere |= used;
                assignedHere |= assigned;
                singleHere |= single;
                n++;
            }
            expect('}');
            used = usedBefore | usedHere;
            assigned = assignedBefore | assignedHere;
            single = singleBefore | singleHere;
            // A par inside this one has been told already, but its word comes later.
            if (clash && (parFault == NONE || place < parFault)) {
                parFault = place;
            }
            return circuit.add(PAR, first, n, -1);
        }

        private int namedStatement(int depth) {
            int place = tokens.place();
            int name = meaning();
            int kind = circuit.names.kind(name);
            boolean itself = kind == A_PROC && circuit.names.number(name) == self;
            check(kind != A_FUN && !itself && name >= ownFrom, place);
            tokens.step();
            switch (tokens.kind()) {
                case '=':
                case '[':
                    int target = target(name, place);
                    int subscript = tokens.kind() == '[' ? subscript(depth) : -1;
                    expect('=');
                    int value = expression(depth);
                    expect(';');
                    return circuit.add(SET, target, value, subscript);
                case '!':
                    check(kind == A_CHAN || kind == AN_OUT, place);
                    tokens.step();
                    int sent = expression(depth);
                    expect(';');
                    single |= 1L << line(name);
                    return circuit.add(SEND, line(name), sent, -1);
                case '?':
                    check(kind == A_CHAN || kind == AN_IN, place);
                    tokens.step();
                    int targetPlace = tokens.place();
                    int targetName = meaning();
                    tokens.step();
                    int receiver = target(targetName, targetPlace);
                    int itsSubscript = tokens.kind() == '[' ? subscript(depth) : -1;
                    expect(';');
                    single |= 1L << LINES + line(name);
                    return circuit.add(RECEIVE, line(name), receiver, itsSubscript);
                default:
                    check(tokens.kind() == '(', tokens.place());
                    check(kind == A_PROC, place);
                    int called = call(circuit.names.number(name), place, depth);
                    expect(';');
                    return called;
            }
        }

        /** Chans are the lines from 0, ins and outs those behind them. */
        private int line(int name) {
            int number = circuit.names.number(name);
            return circuit.names.kind(name) == A_CHAN ? number : MOST_CHANS + number;
        }

        /** Variables are the targets from 0, arrays those behind them; what follows the name is at hand. */
        private int target(int name, int place) {
            int kind = tokens.kind() == '[' ? AN_ARRAY : A_VARIABLE;
            check(circuit.names.kind(name) == kind, place);
            int target = circuit.names.number(name) + (kind == AN_ARRAY ? MOST_VARIABLES : 0);
            used |= 1L << target;
            assigned |= 1L << target;
            return target;
        }

        private int condition(int depth) {
            tokens.step();
            expect('(');
            int condition = expression(depth);
            expect(')');
            return condition;
        }

        private int subscript(int depth) {
            check(depth < DEEPEST, tokens.place());
            tokens.step();
            int subscript = expression(depth + 1);
            expect(']');
            return subscript;
        }

        /** A call whose ( is at hand, its E at a depth. */
        private int call(int routine, int place, int depth) {
            check(routine >= 0 && routine < MOST_ROUTINES, place);
            tokens.step();
            int first = -1;
            int last = -1;
            int n = 0;
            while (n < TAPE_SIZE && (n == 0 ? tokens.kind() != ')' : tokens.kind() == ',')) {
                if (n > 0) {
                    tokens.step();
                }
                int part = expression(depth);
                circuit.link(last, part);
                first = n == 0 ? part : first;
                last = part;
                n++;
            }
            check(tokens.kind() == ')', tokens.place());
            check(n == circuit.parameters(routine), place);
            tokens.step();
            used |= usedBy[routine];
            assigned |= assignedBy[routine];
            single |= singleBy[routine] | 1L << 2 * LINES + routine;
            return circuit.add(CALL, routine, first, n);
        }

        /** Signs wait on a stack till one comes that binds no tighter. */
        private int expression(int depth) {
            int bottom = pending;
            int right = operand(depth);
            int level = level(tokens.kind());
            for (int i = 0; i < TAPE_SIZE && level > 0; i++) {
                right = join(bottom, level, right);
                check(pending < MOST_PENDING, tokens.place());
                pendingSign[pending] = tokens.kind();
                pendingLeft[pending] = right;
                pending++;
                tokens.step();
                right = operand(depth);
                level = level(tokens.kind());
            }
            return join(bottom, 1, right);
        }

        private int join(int bottom, int level, int right) {
            int joined = right;
            while (pending > bottom && pending > 0 && level(pendingSign[pending - 1]) >= level) {
                pending--;
                joined = circuit.add(SIGN_TWO, pendingSign[pending], pendingLeft[pending], joined);
            }
            return joined;
        }

        private int operand(int depth) {
            int kind = tokens.kind();
            switch (kind) {
                case '-':
                case '~':
                case '!':
                    check(depth < DEEPEST, tokens.place());
                    tokens.step();
                    return circuit.add(SIGN_ONE, kind, operand(depth + 1), -1);
                case '(':
                    check(depth < DEEPEST, tokens.place());
                    tokens.step();
                    int inner = expression(depth + 1);
                    expect(')');
                    return inner;
                case NUMBER:
                    return circuit.add(NUMBER, number(0, MOST_NUMBER), -1, -1);
                default:
                    return namedOperand(depth);
            }
        }

        private int namedOperand(int depth) {
            int place = tokens.place();
            int name = meaning();
            int kind = circuit.names.kind(name);
            int number = circuit.names.number(name);
            tokens.step();
            if (tokens.kind() == '[') {
                check(kind == AN_ARRAY, place);
                used |= 1L << MOST_VARIABLES + number;
                return circuit.add(ITEM, number, subscript(depth), -1);
            }
            if (tokens.kind() == '(') {
                check(kind == A_FUN && number != self, place);
                check(depth < DEEPEST, tokens.place());
                return call(number, place, depth + 1);
            }
            check(kind == A_VARIABLE, place);
            used |= 1L << number;
            return circuit.add(READ, number, -1, -1);
        }

        /** The place among the names of the one at hand. */
        private int meaning() {
            int name = circuit.names.find(tokens.value(), 0);
            check(tokens.kind() == NAME && name >= 0, tokens.place());
            return name;
        }

        private void declareInt(int bottom) {
            circuit.setBits(declare(A_VARIABLE, bottom), 0);
        }

        /** Declares the name at hand, once among the names from bottom: its number. */
        private int declare(int kind, int bottom) {
            check(tokens.kind() == NAME && circuit.names.find(tokens.value(), bottom) < 0, tokens.place());
            int counted = kind == A_FUN ? A_PROC : kind;
            check(counted >= 0 && counted < COUNTS && circuit.counts[counted] < LIMITS[counted], tokens.place());
            int number = circuit.counts[counted];
            circuit.counts[counted]++;
            circuit.names.add(tokens.value(), kind, number);
            tokens.step();
            return number;
        }

        private int number(int least, int most) {
            long number = tokens.value();
            check(tokens.kind() == NUMBER && number >= least && number <= most, tokens.place());
            tokens.step();
            return (int) number;
        }

        private void expect(int kind) {
            check(tokens.kind() == kind, tokens.place());
            tokens.step();
        }

        private void check(boolean right, int place) {
            if (!right) {
                fault = place;
                throw new IllegalStateException();
            }
        }

        /** How tight a sign between two E binds, 0 for all other tokens. */
        private static int level(int sign) {
            switch (sign) {
                case EITHER:
                    return 1;
                case BOTH:
                    return 2;
                case '|':
                    return 3;
                case '^':
                    return 4;
                case '&':
                    return 5;
                case SAME: case OTHER:
                    return 6;
                case '<': case AT_MOST: case '>': case AT_LEAST:
                    return 7;
                case LEFT: case RIGHT:
                    return 8;
                case '+': case '-':
                    return 9;
                case '*': case '/': case '%':
                    return 10;
                default:
                    return 0;
            }
        }
    }

    /** A circuit at work. Parts that can go on lie on a stack; a part that waits for another lies nowhere. */
    private static final class Work {
        private Circuit circuit;
        /** Who began a part, -1 for the whole. */
        private final int[] by = new int[MOST_PARTS];
        /** How often a part has been turned to since it was begun, -1 if its step is still to be taken. */
        private final int[] turns = new int[MOST_PARTS];
        private final int[] values = new int[MOST_PARTS];
        /** The part of its row that a part has begun last. */
        private final int[] current = new int[MOST_PARTS];
        private final int[] ready = new int[MOST_PARTS];
        private int top = 0;
        private final int[] variables = new int[MOST_VARIABLES];
        private final int[] items = new int[MOST_ARRAYS * ARRAY_SIZE];
        private final Queue[] ins = new Queue[MOST_INS];
        private final Queue[] outs = new Queue[MOST_OUTS];
        /** Who waits to send or to receive on a line, -1 for none. */
        private final int[] senders = new int[LINES];
        private final int[] receivers = new int[LINES];
        private boolean done = false;
        private int state = READY;
        private int steps = 0;

        Work(Circuit circuit) {
            this.circuit = circuit;
            for (int i = 0; i < MOST_INS; i++) {
                ins[i] = new Queue();
            }
            for (int i = 0; i < MOST_OUTS; i++) {
                outs[i] = new Queue();
            }
        }

        void restart(Circuit newCircuit) {
            circuit = newCircuit;
            Arrays.fill(variables, 0);
            Arrays.fill(items, 0);
            Arrays.fill(senders, -1);
            Arrays.fill(receivers, -1);
            for (int i = 0; i < MOST_INS; i++) {
                ins[i].clear();
            }
            for (int i = 0; i < MOST_OUTS; i++) {
                outs[i].clear();
            }
            top = 0;
            done = false;
            state = READY;
        }

        /** Works till nothing can go on, with at most so many steps. */
        void goOn(int most) {
            steps = 0;
            if (state == READY) {
                ask(circuit.main, -1);
            } else {
                wake(senders);
                wake(receivers);
            }
            for (int i = 0; i < MOST_TURNS && top > 0; i++) {
                top--;
                int part = ready[top];
                if (turns[part] < 0) {
                    if (steps == most) {
                        state = LOST;
                        steps = 0;
                        return;
                    }
                    steps++;
                    turns[part] = 0;
                }
                turnTo(part);
            }
            state = done ? ENDED : WAITS;
        }

        /** Those that wait for an in or out look again: values may have come or gone since. */
        private void wake(int[] waiting) {
            for (int line = MOST_CHANS; line < LINES && line < waiting.length; line++) {
                int part = waiting[line];
                waiting[line] = -1;
                push(part);
            }
        }

        private void ask(int part, int asker) {
            if (circuit.has(part)) {
                by[part] = asker;
                turns[part] = -1;
                push(part);
            }
        }

        private void tell(int part, int value) {
            if (circuit.has(part)) {
                values[part] = value;
                done |= by[part] < 0;
                push(by[part]);
            }
        }

        private void push(int part) {
            if (part >= 0 && part < MOST_PARTS && top >= 0 && top < MOST_PARTS) {
                ready[top] = part;
                top++;
            }
        }

        private void turnTo(int part) {
            int turn = turns[part];
            turns[part]++;
            switch (circuit.kind[part]) {
                case NUMBER: case READ: case ITEM: case SIGN_ONE: case SIGN_TWO:
                    turnToE(part, turn);
                    break;
                case CALL:
                    turnToCall(part, turn);
                    break;
                case SET: case SEND: case RECEIVE:
                    turnToMove(part, turn);
                    break;
                default:
                    turnToFlow(part, turn);
                    break;
            }
        }

        private void turnToE(int part, int turn) {
            int a = circuit.a[part];
            int b = circuit.b[part];
            int c = circuit.c[part];
            switch (circuit.kind[part]) {
                case NUMBER:
                    tell(part, a);
                    break;
                case READ:
                    tell(part, variable(a));
                    break;
                case SIGN_TWO:
                    if (turn < 2) {
                        ask(turn == 0 ? b : c, part);
                    } else {
                        tell(part, signTwo(a, value(b), value(c)));
                    }
                    break;
                default:
                    if (turn == 0) {
                        ask(b, part);
                    } else {
                        tell(part, circuit.kind[part] == ITEM ? item(a, value(b)) : signOne(a, value(b)));
                    }
                    break;
            }
        }

        private void turnToCall(int part, int turn) {
            int routine = circuit.a[part];
            int first = circuit.b[part];
            int n = circuit.c[part];
            if (turn < n) {
                current[part] = turn == 0 ? first : circuit.follower(current[part]);
                ask(current[part], part);
            } else if (turn == n) {
                pass(routine, first, n);
                current[part] = circuit.body(routine);
                ask(current[part], part);
            } else {
                int value = value(current[part]);
                current[part] = circuit.follower(current[part]);
                askOrTell(current[part], part, value);
            }
        }

        private void pass(int routine, int first, int n) {
            int part = first;
            for (int i = 0; i < n; i++) {
                assign(circuit.firstParameter(routine) + i, 0, value(part));
                part = circuit.follower(part);
            }
        }

        private void turnToMove(int part, int turn) {
            int a = circuit.a[part];
            int b = circuit.b[part];
            int c = circuit.c[part];
            int kind = circuit.kind[part];
            // Without a subscript the first turn is as if one were done.
            int stage = c < 0 ? turn + 1 : turn;
            if (kind == SEND && turn == 0) {
                ask(b, part);
            } else if (kind == SEND) {
                sendOrWait(part, a, value(b));
            } else if (stage == 0) {
                ask(c, part);
            } else if (kind == RECEIVE) {
                receiveOrWait(part, a);
            } else if (stage == 1) {
                ask(b, part);
            } else {
                assign(a, value(c), value(b));
                tell(part, 0);
            }
        }

        private void sendOrWait(int part, int line, int value) {
            if (line < 0 || line >= LINES) {
                return;
            }
            if (line >= MOST_CHANS) {
                if (outs[line - MOST_CHANS].add((short) value)) {
                    tell(part, 0);
                } else {
                    senders[line] = part;
                }
            } else if (receivers[line] >= 0) {
                handOver(part, receivers[line], value);
                receivers[line] = -1;
            } else {
                senders[line] = part;
            }
        }

        private void receiveOrWait(int part, int line) {
            if (line < 0 || line >= LINES) {
                return;
            }
            if (line >= MOST_CHANS) {
                Queue in = ins[line - MOST_CHANS];
                if (in.size > 0) {
                    assign(circuit.b[part], value(circuit.c[part]), in.remove());
                    tell(part, 0);
                } else {
                    receivers[line] = part;
                }
            } else if (senders[line] >= 0) {
                handOver(senders[line], part, value(circuit.b[senders[line]]));
                senders[line] = -1;
            } else {
                receivers[line] = part;
            }
        }

        private void handOver(int sender, int receiver, int value) {
            if (circuit.has(receiver)) {
                assign(circuit.b[receiver], value(circuit.c[receiver]), value);
                tell(sender, 0);
                tell(receiver, 0);
            }
        }

        private void turnToFlow(int part, int turn) {
            int a = circuit.a[part];
            int b = circuit.b[part];
            switch (circuit.kind[part]) {
                case IF:
                    if (turn == 0) {
                        ask(a, part);
                    } else {
                        int chosen = value(a) != 0 ? b : circuit.c[part];
                        askOrTell(turn == 1 ? chosen : -1, part, 0);
                    }
                    break;
                case WHILE:
                    if (turn % 2 == 0) {
                        ask(a, part);
                    } else {
                        askOrTell(value(a) != 0 ? b : -1, part, 0);
                    }
                    break;
                case REPEAT:
                    askOrTell(turn < a ? b : -1, part, 0);
                    break;
                case BLOCK:
                    current[part] = turn == 0 ? a : circuit.follower(current[part]);
                    askOrTell(current[part], part, 0);
                    break;
                case PAR:
                    turnToPar(part, turn);
                    break;
                default:
                    tell(part, 0);
                    break;
            }
        }

        private void turnToPar(int part, int turn) {
            int n = circuit.b[part];
            if (turn == 0) {
                int branch = circuit.a[part];
                for (int i = 0; i < n; i++) {
                    ask(branch, part);
                    branch = circuit.follower(branch);
                }
            } else if (turn == n) {
                tell(part, 0);
            }
        }

        private void askOrTell(int next, int part, int value) {
            if (next >= 0) {
                ask(next, part);
            } else {
                tell(part, value);
            }
        }

        private int value(int part) {
            return circuit.has(part) ? values[part] : 0;
        }

        int variable(int number) {
            return number >= 0 && number < MOST_VARIABLES ? variables[number] : 0;
        }

        int item(int array, int subscript) {
            if (array < 0 || array >= MOST_ARRAYS) {
                return 0;
            }
            return items[array * ARRAY_SIZE + circuit.placeIn(array, subscript)];
        }

        /** Keeps the bits that the target has: of a var the lowest, of all others 16 with sign. */
        private void assign(int target, int subscript, int value) {
            int array = target - MOST_VARIABLES;
            if (target >= 0 && target < MOST_VARIABLES) {
                int bits = circuit.bits[target];
                variables[target] = bits == 0 ? (short) value : value & (1 << bits) - 1;
            } else if (array >= 0 && array < MOST_ARRAYS) {
                items[array * ARRAY_SIZE + circuit.placeIn(array, subscript)] = (short) value;
            }
        }

        private static int signOne(int sign, int value) {
            switch (sign) {
                case '-':
                    return -value;
                case '~':
                    return ~value;
                default:
                    return truth(value == 0);
            }
        }

        private static int signTwo(int sign, int x, int y) {
            switch (sign) {
                case EITHER:
                    return truth(x != 0 || y != 0);
                case BOTH:
                    return truth(x != 0 && y != 0);
                case '|':
                    return x | y;
                case '^':
                    return x ^ y;
                case '&':
                    return x & y;
                case SAME:
                    return truth(x == y);
                case OTHER:
                    return truth(x != y);
                case '<':
                    return truth(x < y);
                case AT_MOST:
                    return truth(x <= y);
                case '>':
                    return truth(x > y);
                case AT_LEAST:
                    return truth(x >= y);
                case LEFT:
                    return x << (y & 31);
                case RIGHT:
                    return x >> (y & 31);
                case '+':
                    return x + y;
                case '-':
                    return x - y;
                case '*':
                    return x * y;
                case '/':
                    return y == 0 ? 0 : x / y;
                default:
                    return y == 0 ? 0 : x % y;
            }
        }

        private static int truth(boolean holds) {
            return holds ? 1 : 0;
        }
    }

    /** The values that an in or out holds, the first to go at first. */
    private static final class Queue {
        private final int[] values = new int[QUEUE_SIZE];
        private int first = 0;
        private int size = 0;

        void clear() {
            first = 0;
            size = 0;
        }

        /** False if there is no room. */
        boolean add(int value) {
            if (size >= QUEUE_SIZE) {
                return false;
            }
            values[(first + size) % QUEUE_SIZE] = value;
            size++;
            return true;
        }

        int remove() {
            if (size <= 0) {
                return 0;
            }
            int value = values[first];
            first = (first + 1) % QUEUE_SIZE;
            size--;
            return value;
        }
    }
}
