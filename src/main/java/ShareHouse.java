import java.util.Arrays;

/**
 * Parties reckon together what none of them could alone, and learn nothing but the outcome: a program in a small
 * language becomes a circuit of XORs and ANDs, a dealer cuts bits into shares, and messages carry the parties through
 * the circuit level by level.
 */
public final class ShareHouse {
    /** None. */
    public static final int NONE = -1;

    private static final int FEWEST_PARTIES = 2;
    private static final int MOST_PARTIES = 16;
    private static final int FEWEST_BITS = 1;
    private static final int MOST_BITS = 32;
    private static final int READY_BYTES = 20;
    private static final int MOST_TEXT = 4000;
    private static final int MOST_NAME = 16;
    private static final int MOST_WORDS = 256;
    private static final int MOST_SIZE = 64;
    private static final int MOST_NESTED = 30;
    private static final int MOST_GATES = 40_000;
    private static final int MOST_LEVEL = 2_000;
    private static final int MOST_STEPS = 100_000;
    private static final int MOST_TURNS = 256;
    private static final int MOST_DRAWS = 2_000;
    private static final int MOST_RUSHED = 100_000;
    private static final long MOST_NUMBER = 4_294_967_295L;

    // What a text can have at most, by the fewest bytes of it: rows are made once, as long as they can ever need to be.
    // Of a NAME that comes in: for i, def f, a:int.
    private static final int MOST_NAMES = MOST_TEXT / 5;
    // Of an output: output 1;
    private static final int MOST_OUTPUTS = MOST_TEXT / 9;
    // Of a def: def f():int=1; (none is open twice, as it calls those ahead of it alone).
    private static final int MOST_CALLS = MOST_TEXT / 14;
    // Of an EXPR that is worked out and waits for another one: 1+ (beside them the latest one, and one to come).
    private static final int MOST_WAITING = MOST_TEXT / 2 + 2;

    private static final int INT = 0;
    private static final int BIT = 1;

    // The CONSTANTs as LITERALS: so numbered, they too are turned by turning the lowest bit.
    private static final int ZERO = -2;
    private static final int ONE = -1;
    private static final int NO_LITERAL = -3;

    private final int parties;
    private final int width;
    private final byte[] ready;
    private final byte[] tape;
    private int taped;
    private final Code code;
    private final Names names;
    private final Inputs inputs;
    private final Circuit circuit;
    private final Reader reader;
    private final Sorts sorts;
    private final Builder builder;
    private final Dealer dealer;
    private final Post post;
    private boolean built;
    private boolean cut;
    private boolean worked;

    public ShareHouse(int parties, int width) {
        this.parties = Math.max(FEWEST_PARTIES, Math.min(MOST_PARTIES, parties));
        this.width = Math.max(FEWEST_BITS, Math.min(MOST_BITS, width));
        ready = new byte[READY_BYTES];
        tape = new byte[MOST_TEXT];
        code = new Code();
        names = new Names(tape);
        inputs = new Inputs(this.parties);
        circuit = new Circuit(this.width);
        reader = new Reader(tape, code, names, inputs, this.parties, this.width);
        sorts = new Sorts(code, names);
        builder = new Builder(code, names, inputs, circuit, this.width);
        dealer = new Dealer(this.parties, this.width);
        post = new Post(this.parties, circuit, inputs, dealer);
    }

    public void feed(int a, int b, int c, int d, int e) {
        putReady(0, a);
        putReady(4, b);
        putReady(8, c);
        putReady(12, d);
        putReady(16, e);
    }

    public int end(int n) {
        if (n < 0 || n > READY_BYTES || taped + n > MOST_TEXT) {
            return NONE;
        }
        for (int i = 0; i < n; i++) {
            if (!isText(ready[i])) {
                return NONE;
            }
        }
        System.arraycopy(ready, 0, tape, taped, n);
        taped += n;
        Arrays.fill(ready, (byte) 0);
        return taped;
    }

    public int compile() {
        built = false;
        cut = false;
        worked = false;
        code.clear();
        names.clear(taped);
        inputs.clear();
        reader.readProgram(taped);
        if (code.fault == 0) {
            sorts.check();
        }
        if (code.fault == 0) {
            circuit.clear(inputs.wires);
            builder.build();
        }
        taped = 0;
        if (code.fault == 0) {
            circuit.finish();
            built = true;
        } else {
            inputs.clear();
        }
        return code.fault;
    }

    public int look(int what) {
        if (what >= 1 && what <= 8) {
            return built ? lookAtCircuit(what) : NONE;
        }
        switch (what) {
            case 0:
                return code.place;
            case 9:
                return cut ? post.flying : 0;
            case 10:
                return cut ? post.delivered : 0;
            case 11:
                return cut ? post.done : 0;
            case 12:
                return cut ? 2 : built ? 1 : 0;
            case 13:
                return dealer.waiting;
            case 14:
                return dealer.seed;
            default:
                return NONE;
        }
    }

    public int gate(int g, int what) {
        if (!built || g < 0 || g >= circuit.gates) {
            return NONE;
        }
        switch (what) {
            case 0:
                return circuit.number[g] == NONE ? 0 : 1;
            case 1:
                return circuit.level[g];
            case 2:
                return circuit.first[g];
            case 3:
                return circuit.second[g];
            default:
                return NONE;
        }
    }

    public int literal(int k, int j) {
        if (!hasOutput(k) || j < 0 || j >= circuit.outputBits(k)) {
            return NO_LITERAL;
        }
        return circuit.outputLiteral(k, j);
    }

    public long input(int w, int what) {
        if (w < 0 || w >= inputs.words) {
            return NONE;
        }
        switch (what) {
            case 0:
                return inputs.owner[w];
            case 1:
                return inputs.bits[w];
            case 2:
                return inputs.value[w] & MOST_NUMBER;
            default:
                return NONE;
        }
    }

    public boolean give(int w, int v) {
        if (w < 0 || w >= inputs.words) {
            return false;
        }
        inputs.value[w] = v & (-1 >>> (MOST_BITS - inputs.bits[w]));
        worked = worked && cut;
        return true;
    }

    public void seed(int s) {
        dealer.seed = s;
    }

    public int draws(long bits, int n) {
        if (n < 0 || n > 64 || dealer.waiting + n > MOST_DRAWS) {
            return NONE;
        }
        return dealer.keep(bits, n);
    }

    public boolean deal() {
        if (!built) {
            return false;
        }
        inputs.fix();
        dealer.cutInputs(inputs);
        dealer.cutTriples(circuit.ands);
        dealer.forgetUsed();
        dealer.workShares(circuit);
        post.begin();
        cut = true;
        worked = false;
        return true;
    }

    public int message(int k, int what) {
        if (!isFlying(k)) {
            return NONE;
        }
        int m = post.flight[k];
        switch (what) {
            case 0:
                return Post.from(m);
            case 1:
                return Post.to(m);
            case 2:
                return Post.round(m);
            case 3:
                return post.bitsOf(m);
            default:
                return what < 4 || what - 4 >= post.bitsOf(m) ? NONE : post.bitOf(m, what - 4);
        }
    }

    public int deliver(int k) {
        return isFlying(k) ? post.bring(k) : NONE;
    }

    public int rush(int n, int by) {
        if (n < 0 || by < 0 || n > MOST_RUSHED) {
            return NONE;
        }
        int brought = 0;
        while (brought < n && cut && post.flying > 0) {
            post.bring(by % post.flying);
            brought++;
        }
        return brought;
    }

    public int party(int p, int what) {
        if (!isAtWork(p)) {
            return NONE;
        }
        switch (what) {
            case 0:
                return post.at[p];
            case 1:
                return post.arrived[p];
            case 2:
                return post.viewBits(p);
            default:
                return NONE;
        }
    }

    public int dealt(int p, int g, int what) {
        if (!isAtWork(p) || g < 0 || g >= circuit.gates || circuit.number[g] == NONE || what < 0 || what > 2) {
            return NONE;
        }
        return dealer.tripleBit(circuit.number[g], what, p);
    }

    public int share(int p, int wire) {
        if (!isAtWork(p) || wire < 0 || wire >= circuit.wires() || circuit.levelOf(2 * wire) >= post.at[p]) {
            return NONE;
        }
        return dealer.sharesOf(2 * wire) >> p & 1;
    }

    public int view(int p, int i) {
        return isAtWork(p) && i >= 0 && i < post.viewBits(p) ? post.viewBit(p, i) : NONE;
    }

    public long told(int p, int k) {
        if (!isAtWork(p) || !hasOutput(k) || !post.isDone(p)) {
            return NONE;
        }
        long value = 0;
        for (int j = 0; j < circuit.outputBits(k); j++) {
            value |= (long) parity(dealer.sharesOf(circuit.outputLiteral(k, j))) << j;
        }
        return value;
    }

    public long truth(int k) {
        if (!hasOutput(k)) {
            return NONE;
        }
        if (!worked) {
            circuit.work(inputs, cut);
            worked = true;
        }
        long value = 0;
        for (int j = 0; j < circuit.outputBits(k); j++) {
            value |= (long) circuit.clearOf(circuit.outputLiteral(k, j)) << j;
        }
        return value;
    }

    private void putReady(int from, int bytes) {
        for (int i = 0; i < 4; i++) {
            ready[from + i] = (byte) (bytes >>> (24 - 8 * i));
        }
    }

    private int lookAtCircuit(int what) {
        switch (what) {
            case 1:
                return circuit.gates;
            case 2:
                return circuit.ands;
            case 3:
                return circuit.depth;
            case 4:
                return inputs.wires;
            case 5:
                return inputs.words;
            case 6:
                return circuit.outputs;
            case 7:
                return inputs.wires * (parties - 1) + circuit.ands * (3 * parties - 1);
            default:
                return builder.steps;
        }
    }

    private boolean hasOutput(int k) {
        return built && k >= 0 && k < circuit.outputs;
    }

    private boolean isFlying(int k) {
        return cut && k >= 0 && k < post.flying;
    }

    private boolean isAtWork(int p) {
        return cut && p >= 0 && p < parties;
    }

    private static boolean isText(int b) {
        return b >= 32 && b <= 126 || b == 9 || b == 10;
    }

    private static int parity(int bits) {
        return Integer.bitCount(bits) & 1;
    }

    /** The text's words, one at a time. */
    private static final class Words {
        // A sign of one byte is its own kind: these stay clear of bytes that a text may have.
        static final int END = 0;
        static final int NAME = 1;
        static final int NUMBER = 2;
        static final int EITHER = 3;
        static final int BOTH = 4;
        static final int SAME = 5;
        static final int OTHER = 6;
        static final int AT_MOST = 7;
        static final int AT_LEAST = 8;
        static final int UP = 11;
        static final int DOWN = 12;
        static final int INPUT = 200;
        static final int OF = 201;
        static final int VAR = 202;
        static final int DEF = 203;
        static final int FOR = 204;
        static final int TO = 205;
        static final int IF = 206;
        static final int ELSE = 207;
        static final int OUTPUT = 208;
        static final int INT_WORD = 209;
        static final int BIT_WORD = 210;
        static final int TRUE = 211;
        static final int FALSE = 212;

        private static final String KEPT = "input of var def for to if else output int bit true false ";
        private static final int LONGEST_KEPT = 6;
        private static final int MOST_DIGITS = 10;

        private final byte[] text;
        private int length;
        int kind;
        int start;
        int stop;

        Words(byte[] text) {
            this.text = text;
        }

        void begin(int length) {
            this.length = length;
            stop = 0;
            advance();
        }

        void advance() {
            skipBlanks();
            start = stop;
            if (start >= length) {
                kind = END;
                return;
            }
            int c = text[start];
            if (isDigit(c)) {
                while (stop < length && isDigit(text[stop])) {
                    stop++;
                }
                kind = NUMBER;
            } else if (isNameByte(c)) {
                while (stop < length && isNameByte(text[stop])) {
                    stop++;
                }
                kind = wordKind();
            } else {
                kind = signKind(c, start + 1 < length ? text[start + 1] : 0);
                stop = start + (kind == c ? 1 : 2);
            }
        }

        /** What a NUMBER is, or NONE where it is beyond all bounds. */
        long number() {
            if (stop - start > MOST_DIGITS) {
                return NONE;
            }
            long value = 0;
            for (int i = start; i < stop; i++) {
                value = 10 * value + (text[i] - '0');
            }
            return value > MOST_NUMBER ? NONE : value;
        }

        static boolean isDigit(int c) {
            return c >= '0' && c <= '9';
        }

        static boolean isNameByte(int c) {
            return c >= 'a' && c <= 'z' || c >= 'A' && c <= 'Z' || c == '_' || c >= '0' && c <= '9';
        }

        private void skipBlanks() {
            boolean comment = false;
            while (stop < length) {
                int c = text[stop];
                comment = c != '\n' && (comment || c == '#');
                if (!comment && c != ' ' && c != '\t' && c != '\n') {
                    return;
                }
                stop++;
            }
        }

        private int wordKind() {
            int size = stop - start;
            if (size > LONGEST_KEPT) {
                return NAME;
            }
            int word = INPUT;
            int alike = 0;
            for (int i = 0; i < KEPT.length(); i++) {
                char c = KEPT.charAt(i);
                if (c == ' ') {
                    if (alike == size) {
                        return word;
                    }
                    word++;
                    alike = 0;
                } else if (alike >= 0 && alike < size && text[start + alike] == c) {
                    alike++;
                } else {
                    alike = NONE;
                }
            }
            return NAME;
        }

        private static int signKind(int c, int next) {
            if (c == next) {
                switch (c) {
                    case '|':
                        return EITHER;
                    case '&':
                        return BOTH;
                    case '=':
                        return SAME;
                    case '<':
                        return UP;
                    case '>':
                        return DOWN;
                    default:
                        return c;
                }
            }
            if (next != '=') {
                return c;
            }
            return c == '!' ? OTHER : c == '<' ? AT_MOST : c == '>' ? AT_LEAST : c;
        }
    }

    /**
     * What the text says, in the order in which it is checked and built (what an operator works on ahead of it), and
     * the first FAULT that was met. A chain of operators or of calls may be thousands long: a row of instructions can
     * be gone over without calls that lie in one another.
     */
    private static final class Code {
        static final int BEGIN = 1;
        static final int INPUT = 2;
        static final int DEF = 3;
        static final int PARAM = 4;
        static final int END_DEF = 5;
        static final int VAR_NAME = 6;
        static final int VAR_SET = 7;
        static final int VAR_ZERO = 8;
        static final int TARGET = 9;
        static final int STORE = 10;
        static final int TARGET_ELEMENT = 11;
        static final int STORE_ELEMENT = 12;
        static final int OUTPUT = 13;
        static final int IF = 14;
        static final int ELSE = 15;
        static final int END_IF = 16;
        static final int LOOP_NAME = 17;
        static final int BOUND = 18;
        static final int FOR = 19;
        static final int NEXT = 20;
        static final int LAST_STATEMENT = NEXT;

        static final int STEP = 21;
        static final int NUMBER = 22;
        static final int TRUTH = 23;
        static final int NAME = 24;
        static final int ELEMENT_NAME = 25;
        static final int INDEX = 26;
        static final int ELEMENT = 27;
        static final int CALL_NAME = 28;
        static final int ARGUMENT = 29;
        static final int CALL = 30;
        static final int INT_OF = 31;
        static final int BIT_FROM = 32;
        static final int BIT_OF = 33;
        static final int LAST_FACTOR = BIT_OF;

        static final int NEGATE = 34;
        static final int FLIP = 35;
        static final int NOT = 36;
        static final int CHOOSE = 37;

        // Those that stand between two, weakest first: RANKS goes by their numbers.
        static final int EITHER = 38;
        static final int BOTH = 39;
        static final int OR = 40;
        static final int XOR = 41;
        static final int AND = 42;
        static final int SAME = 43;
        static final int OTHER = 44;
        static final int LESS = 45;
        static final int AT_MOST = 46;
        static final int MORE = 47;
        static final int AT_LEAST = 48;
        static final int UP = 49;
        static final int DOWN = 50;
        static final int PLUS = 51;
        static final int MINUS = 52;
        static final int TIMES = 53;
        static final int DIVIDE = 54;
        static final int REST = 55;

        static final int HIGHEST_RANK = 10;
        private static final int[] RANKS = {1, 2, 3, 4, 5, 6, 6, 7, 7, 7, 7, 8, 8, 9, 9, 10, 10, 10};

        // Each instruction has a byte of its words for itself (f(1) has four: at f, 1, the ( and the ) ), so that there
        // are no more of them than bytes.
        final int[] op = new int[MOST_TEXT];
        final int[] arg = new int[MOST_TEXT];
        final int[] at = new int[MOST_TEXT];
        final int[] more = new int[MOST_TEXT];
        int size;
        int fault;
        int place = NONE;

        void clear() {
            size = 0;
            fault = 0;
            place = NONE;
        }

        int add(int what, int value, int where) {
            return addWith(what, value, where, 0);
        }

        /** Behind a FAULT nothing is noted: then the first one stands for what is not there. */
        int addWith(int what, int value, int where, int besides) {
            if (fault != 0 || size >= MOST_TEXT) {
                return 0;
            }
            op[size] = what;
            arg[size] = value;
            at[size] = where;
            more[size] = besides;
            return size++;
        }

        void tell(int number, int where) {
            if (fault == 0) {
                fault = number;
                place = where;
            }
        }

        static int rank(int operator) {
            return operator < EITHER || operator > REST ? 0 : RANKS[operator - EITHER];
        }

        static int operatorOf(int kind) {
            switch (kind) {
                case Words.EITHER:
                    return EITHER;
                case Words.BOTH:
                    return BOTH;
                case '|':
                    return OR;
                case '^':
                    return XOR;
                case '&':
                    return AND;
                case Words.SAME:
                    return SAME;
                case Words.OTHER:
                    return OTHER;
                case '<':
                    return LESS;
                case Words.AT_MOST:
                    return AT_MOST;
                case '>':
                    return MORE;
                case Words.AT_LEAST:
                    return AT_LEAST;
                case Words.UP:
                    return UP;
                case Words.DOWN:
                    return DOWN;
                case '+':
                    return PLUS;
                case '-':
                    return MINUS;
                case '*':
                    return TIMES;
                case '/':
                    return DIVIDE;
                case '%':
                    return REST;
                default:
                    return NONE;
            }
        }
    }

    /** What the text declares, in its order (a def's PARAMs right behind it), and what of it is visible. */
    private static final class Names {
        static final int INPUT = 0;
        static final int VAR = 1;
        static final int LOOP = 2;
        static final int PARAM = 3;
        static final int DEF = 4;

        private final byte[] text;
        private int length;
        private final int[] start = new int[MOST_NAMES];
        private final int[] stop = new int[MOST_NAMES];
        final int[] kind = new int[MOST_NAMES];
        final int[] sort = new int[MOST_NAMES];
        final int[] size = new int[MOST_NAMES];
        /** The first of its words; of a PARAM its number, of a def where its EXPR begins. */
        final int[] base = new int[MOST_NAMES];
        /** How many PARAMs a def has. */
        final int[] params = new int[MOST_NAMES];
        int declared;
        private final int[] visible = new int[MOST_NAMES];
        int shown;
        private int floor;

        Names(byte[] text) {
            this.text = text;
        }

        void clear(int length) {
            this.length = length;
            declared = 0;
            shown = 0;
            floor = 0;
        }

        int add(int what, int place, int itsSort, int itsSize, int itsBase) {
            if (declared >= MOST_NAMES) {
                return 0;
            }
            start[declared] = place;
            stop[declared] = stopOf(place);
            kind[declared] = what;
            sort[declared] = itsSort;
            size[declared] = itsSize;
            base[declared] = itsBase;
            params[declared] = 0;
            return declared++;
        }

        int words(int d) {
            return Math.max(1, size[d]);
        }

        boolean isArray(int d) {
            return size[d] > 0;
        }

        void show(int d) {
            if (shown < MOST_NAMES) {
                visible[shown++] = d;
            }
        }

        void hideFrom(int mark) {
            shown = Math.min(shown, mark);
        }

        void enterDef() {
            floor = shown;
        }

        void leaveDef() {
            shown = floor;
            floor = 0;
        }

        /** What the NAME at the place means there; below the floor a def sees nothing but defs. */
        int find(int place) {
            int end = stopOf(place);
            for (int v = shown - 1; v >= 0; v--) {
                int d = visible[v];
                if ((v >= floor || kind[d] == DEF) && isSame(d, place, end)) {
                    return d;
                }
            }
            return NONE;
        }

        private boolean isSame(int d, int place, int end) {
            if (stop[d] - start[d] != end - place) {
                return false;
            }
            for (int i = place; i < end; i++) {
                if (text[i] != text[start[d] + i - place]) {
                    return false;
                }
            }
            return true;
        }

        private int stopOf(int place) {
            int end = place;
            while (end < length && Words.isNameByte(text[end])) {
                end++;
            }
            return end;
        }
    }

    /** The words of inputs: whose they are, their wires, what they are told to be and what was dealt. */
    private static final class Inputs {
        final int[] owner = new int[MOST_WORDS];
        final int[] bits = new int[MOST_WORDS];
        final int[] wire = new int[MOST_WORDS];
        final int[] value = new int[MOST_WORDS];
        final int[] fixed = new int[MOST_WORDS];
        /** How many bits each party has. */
        final int[] own;
        int words;
        int wires;

        Inputs(int parties) {
            own = new int[parties];
        }

        void clear() {
            words = 0;
            wires = 0;
            Arrays.fill(own, 0);
        }

        void add(int party, int itsBits, int count) {
            for (int k = 0; k < count && words < MOST_WORDS; k++) {
                owner[words] = party;
                bits[words] = itsBits;
                wire[words] = wires;
                value[words] = 0;
                words++;
                wires += itsBits;
                own[party] += itsBits;
            }
        }

        void fix() {
            System.arraycopy(value, 0, fixed, 0, words);
        }

        /** The wire of the i-th bit of a party's own. */
        int wireOf(int party, int i) {
            int left = i;
            for (int w = 0; w < words; w++) {
                if (owner[w] == party) {
                    if (left < bits[w]) {
                        return wire[w] + left;
                    }
                    left -= bits[w];
                }
            }
            return NONE;
        }
    }

    /** Reads a PROGRAM; once there is a FAULT nothing more is read, and what is still noted does not count. */
    private static final class Reader {
        private final Words words;
        private final Code code;
        private final Names names;
        private final Inputs inputs;
        private final int parties;
        private final int width;
        private final int[] waiting = new int[(MOST_NESTED + 1) * Code.HIGHEST_RANK];
        private final int[] waitingAt = new int[(MOST_NESTED + 1) * Code.HIGHEST_RANK];
        private final int[] waitingRight = new int[(MOST_NESTED + 1) * Code.HIGHEST_RANK];
        private int waits;
        private int varWords;

        Reader(byte[] text, Code code, Names names, Inputs inputs, int parties, int width) {
            words = new Words(text);
            this.code = code;
            this.names = names;
            this.inputs = inputs;
            this.parties = parties;
            this.width = width;
        }

        void readProgram(int length) {
            waits = 0;
            varWords = 0;
            words.begin(length);
            for (int n = 0; n <= length && code.fault == 0 && words.kind != Words.END; n++) {
                switch (words.kind) {
                    case Words.INPUT:
                        readInput();
                        break;
                    case Words.DEF:
                        readDef();
                        break;
                    case Words.OUTPUT:
                        readOutput();
                        break;
                    default:
                        readStatement(0);
                        break;
                }
            }
        }

        private void readInput() {
            words.advance();
            int name = takeName();
            expect(Words.OF);
            int party = (int) takeNumber(0, parties - 1);
            expect(':');
            int d = takeTyped(Names.INPUT, name, inputs.words);
            if (code.fault == 0) {
                inputs.add(party, names.sort[d] == BIT ? 1 : width, names.words(d));
                code.add(Code.INPUT, d, name);
            }
            expect(';');
        }

        private void readDef() {
            words.advance();
            int name = takeName();
            if (code.fault != 0) {
                return;
            }
            int d = names.add(Names.DEF, name, INT, 0, 0);
            int head = code.add(Code.DEF, d, name);
            expect('(');
            if (words.kind != ')') {
                readParam(d);
            }
            for (int n = 0; n < MOST_TEXT && code.fault == 0 && words.kind == ','; n++) {
                words.advance();
                readParam(d);
            }
            expect(')');
            expect(':');
            int sort = takeSort();
            expect('=');
            names.sort[d] = sort;
            names.base[d] = code.size;
            int from = words.start;
            readExpr(0);
            code.add(Code.END_DEF, d, from);
            code.more[head] = code.size;
            expect(';');
        }

        private void readParam(int d) {
            int name = takeName();
            expect(':');
            int sort = takeSort();
            if (code.fault == 0) {
                code.add(Code.PARAM, names.add(Names.PARAM, name, sort, 0, names.params[d]), name);
                names.params[d]++;
            }
        }

        private void readOutput() {
            code.add(Code.BEGIN, 0, words.start);
            words.advance();
            int from = words.start;
            readExpr(0);
            code.add(Code.OUTPUT, 0, from);
            expect(';');
        }

        /** The depth counts what is open around it of all that may lie in one another. */
        private void readStatement(int depth) {
            switch (words.kind) {
                case Words.VAR:
                    readVar(depth);
                    break;
                case Words.NAME:
                    readAssignment(depth);
                    break;
                case Words.IF:
                    readIf(depth);
                    break;
                case Words.FOR:
                    readFor(depth);
                    break;
                default:
                    code.tell(1, words.start);
                    break;
            }
        }

        private void readVar(int depth) {
            code.add(Code.BEGIN, 0, words.start);
            words.advance();
            int name = takeName();
            expect(':');
            int d = takeTyped(Names.VAR, name, varWords);
            if (code.fault != 0) {
                return;
            }
            varWords += names.words(d);
            code.add(Code.VAR_NAME, d, name);
            if (words.kind == '=') {
                words.advance();
                int from = words.start;
                readExpr(depth);
                code.add(Code.VAR_SET, d, from);
            } else {
                code.add(Code.VAR_ZERO, d, name);
            }
            expect(';');
        }

        private void readAssignment(int depth) {
            code.add(Code.BEGIN, 0, words.start);
            int name = takeName();
            boolean element = words.kind == '[';
            int head = code.add(element ? Code.TARGET_ELEMENT : Code.TARGET, NONE, name);
            if (element) {
                readIndex(head, depth);
            }
            expect('=');
            int from = words.start;
            readExpr(depth);
            code.add(element ? Code.STORE_ELEMENT : Code.STORE, head, from);
            expect(';');
        }

        private void readIf(int depth) {
            int from = words.start;
            code.add(Code.BEGIN, 0, from);
            words.advance();
            if (!opens('(', depth)) {
                return;
            }
            int condition = words.start;
            readExpr(depth + 1);
            expect(')');
            int head = code.add(Code.IF, 0, condition);
            readBlock(depth);
            code.add(Code.ELSE, head, from);
            if (code.fault == 0 && words.kind == Words.ELSE) {
                words.advance();
                if (words.kind != Words.IF) {
                    readBlock(depth);
                } else if (depth < MOST_NESTED) {
                    readIf(depth + 1);
                } else {
                    code.tell(3, words.start);
                }
            }
            code.add(Code.END_IF, head, from);
        }

        private void readFor(int depth) {
            int from = words.start;
            code.add(Code.BEGIN, 0, from);
            words.advance();
            int name = takeName();
            if (code.fault != 0) {
                return;
            }
            int d = names.add(Names.LOOP, name, INT, 0, 0);
            code.add(Code.LOOP_NAME, d, name);
            expect('=');
            int first = words.start;
            readExpr(depth);
            code.add(Code.BOUND, 0, first);
            expect(Words.TO);
            int last = words.start;
            readExpr(depth);
            code.add(Code.BOUND, 0, last);
            int head = code.add(Code.FOR, d, from);
            readBlock(depth);
            code.addWith(Code.NEXT, d, from, head + 1);
            code.more[head] = code.size;
        }

        private void readBlock(int depth) {
            if (!opens('{', depth)) {
                return;
            }
            for (int n = 0; n < MOST_TEXT && code.fault == 0 && words.kind != '}'; n++) {
                readStatement(depth + 1);
            }
            expect('}');
        }

        private void readExpr(int depth) {
            readChoice(depth);
            if (code.fault != 0 || words.kind != '?') {
                return;
            }
            int sign = words.start;
            if (opens('?', depth)) {
                readExpr(depth + 1);
                expect(':');
                readExpr(depth + 1);
                code.add(Code.CHOOSE, 0, sign);
            }
        }

        /** An operator waits until one comes that is no stronger, so that ten rows of them need no ten calls. */
        private void readChoice(int depth) {
            int bottom = waits;
            readFactor(depth);
            for (int n = 0; n < MOST_TEXT && code.fault == 0; n++) {
                int operator = Code.operatorOf(words.kind);
                settle(bottom, Code.rank(operator));
                if (operator == NONE || waits >= waiting.length) {
                    return;
                }
                waiting[waits] = operator;
                waitingAt[waits] = words.start;
                words.advance();
                waitingRight[waits] = words.start;
                waits++;
                readFactor(depth);
            }
        }

        private void settle(int bottom, int rank) {
            while (waits > bottom && Code.rank(waiting[waits - 1]) >= rank) {
                waits--;
                code.addWith(waiting[waits], 0, waitingAt[waits], waitingRight[waits]);
            }
        }

        private void readFactor(int depth) {
            if (code.fault != 0) {
                return;
            }
            int kind = words.kind;
            int from = words.start;
            switch (kind) {
                case '-':
                case '~':
                case '!':
                    if (opens(kind, depth)) {
                        readFactor(depth + 1);
                        code.add(kind == '-' ? Code.NEGATE : kind == '~' ? Code.FLIP : Code.NOT, 0, from);
                    }
                    break;
                case Words.NUMBER:
                    code.add(Code.NUMBER, (int) takeNumber(0, MOST_NUMBER), from);
                    break;
                case Words.TRUE:
                case Words.FALSE:
                    code.add(Code.TRUTH, kind == Words.TRUE ? ONE : ZERO, from);
                    words.advance();
                    break;
                case Words.NAME:
                    readNamed(depth);
                    break;
                case Words.INT_WORD:
                case Words.BIT_WORD:
                    words.advance();
                    readConversion(kind == Words.BIT_WORD, depth);
                    break;
                case '(':
                    code.add(Code.STEP, 0, from);
                    if (opens(kind, depth)) {
                        readExpr(depth + 1);
                        expect(')');
                    }
                    break;
                default:
                    code.tell(1, from);
                    break;
            }
        }

        private void readConversion(boolean toBit, int depth) {
            code.add(Code.STEP, 0, words.start);
            if (!opens('(', depth)) {
                return;
            }
            int from = words.start;
            readExpr(depth + 1);
            code.add(toBit ? Code.BIT_FROM : Code.INT_OF, 0, from);
            if (toBit) {
                expect(',');
                int which = words.start;
                readExpr(depth + 1);
                code.add(Code.BIT_OF, 0, which);
            }
            expect(')');
        }

        private void readNamed(int depth) {
            int name = takeName();
            if (code.fault != 0) {
                return;
            }
            if (words.kind == '[') {
                int head = code.add(Code.ELEMENT_NAME, NONE, name);
                readIndex(head, depth);
                code.add(Code.ELEMENT, head, name);
            } else if (words.kind == '(') {
                readCall(name, depth);
            } else {
                code.add(Code.NAME, NONE, name);
            }
        }

        private void readIndex(int head, int depth) {
            if (!opens('[', depth)) {
                return;
            }
            int from = words.start;
            readExpr(depth + 1);
            code.add(Code.INDEX, head, from);
            expect(']');
        }

        private void readCall(int name, int depth) {
            int head = code.add(Code.CALL_NAME, NONE, name);
            if (!opens('(', depth)) {
                return;
            }
            int count = 0;
            for (boolean another = words.kind != ')'; another && count < MOST_TEXT; count++) {
                int from = words.start;
                readExpr(depth + 1);
                code.addWith(Code.ARGUMENT, head, from, count);
                another = code.fault == 0 && words.kind == ',';
                if (another) {
                    words.advance();
                }
            }
            code.more[head] = count;
            expect(')');
            code.add(Code.CALL, head, name);
        }

        private void expect(int kind) {
            if (words.kind != kind) {
                code.tell(1, words.start);
            }
            if (code.fault == 0) {
                words.advance();
            }
        }

        private boolean opens(int sign, int depth) {
            if (words.kind != sign) {
                code.tell(1, words.start);
            } else if (depth >= MOST_NESTED) {
                code.tell(3, words.start);
            }
            if (code.fault == 0) {
                words.advance();
            }
            return code.fault == 0;
        }

        private int takeName() {
            int from = words.start;
            if (words.kind != Words.NAME) {
                code.tell(1, from);
            } else if (words.stop - from > MOST_NAME) {
                code.tell(2, from);
            }
            if (code.fault == 0) {
                words.advance();
            }
            return from;
        }

        private long takeNumber(long low, long high) {
            if (words.kind != Words.NUMBER) {
                code.tell(1, words.start);
                return low;
            }
            long value = words.number();
            if (value < low || value > high) {
                code.tell(2, words.start);
            }
            if (code.fault == 0) {
                words.advance();
            }
            return value;
        }

        private int takeSort() {
            int sort = words.kind == Words.BIT_WORD ? BIT : INT;
            if (sort == INT && words.kind != Words.INT_WORD) {
                code.tell(1, words.start);
            }
            if (code.fault == 0) {
                words.advance();
            }
            return sort;
        }

        private int takeTyped(int kind, int name, int ahead) {
            int sort = takeSort();
            int size = 0;
            if (code.fault == 0 && words.kind == '[') {
                words.advance();
                size = (int) takeNumber(1, MOST_SIZE);
                expect(']');
            }
            if (code.fault == 0 && ahead + Math.max(1, size) > MOST_WORDS) {
                code.tell(2, name);
            }
            return code.fault == 0 ? names.add(kind, name, sort, size, ahead) : NONE;
        }
    }

    /** Goes over what was read: what each NAME means, and that all SORTS fit. */
    private static final class Sorts {
        private static final int PUBLIC = 2;

        private final Code code;
        private final Names names;
        /** Of each EXPR that is not used up yet its SORT, and PUBLIC if it is. */
        private final int[] held = new int[(MOST_NESTED + 1) * (Code.HIGHEST_RANK + 2)];
        private int top;
        private final int[] scopes = new int[MOST_NESTED + 1];
        private int open;
        // Of each if that is open: how many words of vars lie ahead of it, and between which it assigns.
        private final int[] ahead = new int[MOST_NESTED + 1];
        private final int[] lowest = new int[MOST_NESTED + 1];
        private final int[] highest = new int[MOST_NESTED + 1];
        private int ifs;
        private int varWords;

        Sorts(Code code, Names names) {
            this.code = code;
            this.names = names;
        }

        void check() {
            top = 0;
            open = 0;
            ifs = 0;
            varWords = 0;
            for (int i = 0; i < code.size && code.fault == 0; i++) {
                int op = code.op[i];
                if (op <= Code.LAST_STATEMENT) {
                    checkStatement(i, op);
                } else if (op <= Code.LAST_FACTOR) {
                    checkFactor(i, op);
                } else if (op < Code.EITHER) {
                    checkSign(i, op);
                } else {
                    checkOperator(i, op);
                }
            }
        }

        private void checkStatement(int i, int op) {
            int d = code.arg[i];
            switch (op) {
                case Code.INPUT:
                case Code.PARAM:
                    comeIn(i);
                    names.show(d);
                    break;
                case Code.DEF:
                    comeIn(i);
                    names.enterDef();
                    break;
                case Code.END_DEF:
                    mustBe(names.sort[d], i);
                    names.leaveDef();
                    names.show(d);
                    break;
                case Code.VAR_NAME:
                    comeIn(i);
                    varWords += names.words(d);
                    break;
                case Code.LOOP_NAME:
                    comeIn(i);
                    break;
                case Code.VAR_SET:
                    mustBe(names.sort[d], i);
                    names.show(d);
                    break;
                case Code.VAR_ZERO:
                    names.show(d);
                    break;
                case Code.TARGET:
                case Code.TARGET_ELEMENT:
                    checkTarget(i, op == Code.TARGET_ELEMENT);
                    break;
                case Code.STORE:
                case Code.STORE_ELEMENT:
                    mustBe(names.sort[code.arg[d]], i);
                    noteAssigned(code.arg[d]);
                    break;
                case Code.OUTPUT:
                    code.arg[i] = sortOf(pop());
                    break;
                default:
                    checkFlow(i, op);
                    break;
            }
        }

        private void checkFlow(int i, int op) {
            switch (op) {
                case Code.IF:
                    mustBe(BIT, i);
                    openScope();
                    openIf();
                    break;
                case Code.ELSE:
                    closeScope();
                    openScope();
                    break;
                case Code.END_IF:
                    closeScope();
                    closeIf(code.arg[i]);
                    break;
                case Code.BOUND:
                    mustBePublic(mustBe(INT, i), code.at[i]);
                    break;
                case Code.FOR:
                    openScope();
                    names.show(code.arg[i]);
                    break;
                case Code.NEXT:
                    closeScope();
                    break;
                default:
                    break;
            }
        }

        private void checkFactor(int i, int op) {
            int head = code.arg[i];
            switch (op) {
                case Code.NUMBER:
                    push(INT | PUBLIC);
                    break;
                case Code.TRUTH:
                    push(BIT | PUBLIC);
                    break;
                case Code.NAME:
                    checkName(i);
                    break;
                case Code.ELEMENT_NAME:
                case Code.CALL_NAME:
                    checkHead(i, op == Code.CALL_NAME);
                    break;
                case Code.INDEX:
                    code.more[head] = mustBe(INT, i) & PUBLIC;
                    break;
                case Code.ARGUMENT:
                    mustBe(names.sort[code.arg[head] + 1 + code.more[i]], i);
                    break;
                case Code.ELEMENT:
                case Code.CALL:
                    push(names.sort[code.arg[head]]);
                    break;
                case Code.INT_OF:
                    push(INT | mustBe(BIT, i) & PUBLIC);
                    break;
                case Code.BIT_FROM:
                    push(BIT | mustBe(INT, i) & PUBLIC);
                    break;
                case Code.BIT_OF:
                    mustBePublic(mustBe(INT, i), code.at[i]);
                    break;
                default:
                    break;
            }
        }

        private void checkSign(int i, int op) {
            if (op == Code.CHOOSE) {
                int y = pop();
                int x = pop();
                int condition = pop();
                if (sortOf(condition) != BIT || sortOf(x) != sortOf(y)) {
                    code.tell(5, code.at[i]);
                }
                code.arg[i] = sortOf(x);
                push(sortOf(x) | condition & x & y & PUBLIC);
                return;
            }
            int x = pop();
            if (sortOf(x) != (op == Code.NOT ? BIT : INT)) {
                code.tell(5, code.at[i]);
            }
            push(x);
        }

        private void checkOperator(int i, int op) {
            int y = pop();
            int x = pop();
            boolean overBits = op == Code.EITHER || op == Code.BOTH;
            boolean overEither = op >= Code.OR && op <= Code.OTHER;
            boolean fits = sortOf(x) == sortOf(y) && (overEither || sortOf(x) == (overBits ? BIT : INT));
            if (!fits) {
                code.tell(5, code.at[i]);
            } else if (op == Code.UP || op == Code.DOWN) {
                mustBePublic(y, code.more[i]);
            }
            code.arg[i] = sortOf(x);
            boolean compares = op >= Code.SAME && op <= Code.AT_LEAST;
            push((compares ? BIT : sortOf(x)) | x & y & PUBLIC);
        }

        private void comeIn(int i) {
            if (names.find(code.at[i]) != NONE) {
                code.tell(4, code.at[i]);
            }
        }

        /** What the NAME of an instruction means, noted there for the builder too. */
        private int resolve(int i) {
            int d = names.find(code.at[i]);
            if (d == NONE) {
                code.tell(4, code.at[i]);
            }
            code.arg[i] = d;
            return d;
        }

        private void checkTarget(int i, boolean element) {
            int d = resolve(i);
            if (d != NONE && (names.kind[d] != Names.VAR || names.isArray(d) != element)) {
                code.tell(5, code.at[i]);
            }
        }

        private void checkName(int i) {
            int d = resolve(i);
            if (d == NONE) {
                return;
            }
            if (names.kind[d] == Names.DEF || names.isArray(d)) {
                code.tell(5, code.at[i]);
            }
            push(names.sort[d] | (names.kind[d] == Names.LOOP ? PUBLIC : 0));
        }

        private void checkHead(int i, boolean call) {
            int d = resolve(i);
            if (d == NONE) {
                return;
            }
            boolean fits = call ? names.kind[d] == Names.DEF && names.params[d] == code.more[i] : names.isArray(d);
            if (!fits) {
                code.tell(5, code.at[i]);
            }
        }

        /** Takes the latest EXPR, which begins where the instruction says. */
        private int mustBe(int sort, int i) {
            int x = pop();
            if (sortOf(x) != sort) {
                code.tell(5, code.at[i]);
            }
            return x;
        }

        private void mustBePublic(int x, int place) {
            if ((x & PUBLIC) == 0) {
                code.tell(6, place);
            }
        }

        private static int sortOf(int x) {
            return x & BIT;
        }

        private void push(int x) {
            if (top < held.length) {
                held[top++] = x;
            }
        }

        private int pop() {
            if (top == 0) {
                return INT;
            }
            top--;
            return held[top];
        }

        private void openScope() {
            if (open < scopes.length) {
                scopes[open++] = names.shown;
            }
        }

        private void closeScope() {
            if (open > 0) {
                open--;
                names.hideFrom(scopes[open]);
            }
        }

        private void openIf() {
            if (ifs < ahead.length) {
                ahead[ifs] = varWords;
                lowest[ifs] = MOST_WORDS;
                highest[ifs] = 0;
                ifs++;
            }
        }

        private void noteAssigned(int d) {
            if (ifs > 0) {
                widen(ifs - 1, names.base[d], names.base[d] + names.words(d));
            }
        }

        /** Notes at an if the words that it may change: the builder need not look at any other. */
        private void closeIf(int head) {
            if (ifs == 0) {
                return;
            }
            ifs--;
            code.arg[head] = lowest[ifs];
            code.more[head] = Math.max(0, Math.min(highest[ifs], ahead[ifs]) - lowest[ifs]);
            if (ifs > 0) {
                widen(ifs - 1, lowest[ifs], highest[ifs]);
            }
        }

        private void widen(int which, int from, int to) {
            lowest[which] = Math.min(lowest[which], from);
            highest[which] = Math.max(highest[which], to);
        }
    }

    /** The GATES, by LITERALS: twice the wire, and 1 if it is turned. */
    private static final class Circuit {
        final int[] first = new int[MOST_GATES];
        final int[] second = new int[MOST_GATES];
        final int[] level = new int[MOST_GATES];
        /** Of an AND which one it is, of an XOR none. */
        final int[] number = new int[MOST_GATES];
        int gates;
        int ands;
        int depth;
        /** There was no room for a GATE. */
        boolean full;
        private int inputWires;
        /** The GATES that are ANDs, by their LEVELS. */
        private final int[] byLevel = new int[MOST_GATES];
        private final int[] levelFrom = new int[MOST_LEVEL + 3];
        int outputs;
        private final int[] outputFrom = new int[MOST_OUTPUTS + 1];
        private final int[] outputLiterals;
        /** What each wire is in the clear. */
        private final int[] values;

        Circuit(int width) {
            outputLiterals = new int[MOST_OUTPUTS * width];
            values = new int[MOST_WORDS * width + MOST_GATES];
        }

        void clear(int wires) {
            inputWires = wires;
            gates = 0;
            ands = 0;
            depth = 0;
            full = false;
            outputs = 0;
            outputFrom[0] = 0;
        }

        int wires() {
            return inputWires + gates;
        }

        int levelOf(int x) {
            int g = (x >> 1) - inputWires;
            return g < 0 || g >= gates ? 0 : level[g];
        }

        int xor(int x, int y) {
            if (x < 0) {
                return y ^ x & 1;
            }
            if (y < 0) {
                return x ^ y & 1;
            }
            int turned = (x ^ y) & 1;
            if (x >> 1 == y >> 1) {
                return ZERO ^ turned;
            }
            return newGate(x & ~1, y & ~1, false, Math.max(levelOf(x), levelOf(y))) ^ turned;
        }

        int and(int x, int y) {
            if (x < 0) {
                return x == ONE ? y : ZERO;
            }
            if (y < 0) {
                return y == ONE ? x : ZERO;
            }
            if (x >> 1 == y >> 1) {
                return x == y ? x : ZERO;
            }
            return newGate(x, y, true, 1 + Math.max(levelOf(x), levelOf(y)));
        }

        private int newGate(int x, int y, boolean isAnd, int itsLevel) {
            full = full || gates >= MOST_GATES || itsLevel > MOST_LEVEL;
            if (full) {
                return ZERO;
            }
            first[gates] = x;
            second[gates] = y;
            level[gates] = itsLevel;
            number[gates] = isAnd ? ands : NONE;
            ands += isAnd ? 1 : 0;
            depth = itsLevel > depth ? itsLevel : depth;
            gates++;
            return 2 * (inputWires + gates - 1);
        }

        void addOutput(int[] row, int from, int bits) {
            if (outputs >= MOST_OUTPUTS || outputFrom[outputs] + bits > outputLiterals.length) {
                return;
            }
            int begin = outputFrom[outputs];
            System.arraycopy(row, from, outputLiterals, begin, bits);
            outputs++;
            outputFrom[outputs] = begin + bits;
        }

        int outputBits(int k) {
            return k < 0 || k >= outputs ? 0 : outputFrom[k + 1] - outputFrom[k];
        }

        int outputLiteral(int k, int j) {
            return j < 0 || j >= outputBits(k) ? ZERO : outputLiterals[outputFrom[k] + j];
        }

        int allOutputBits() {
            return outputFrom[outputs];
        }

        int anyOutputLiteral(int i) {
            return i < 0 || i >= allOutputBits() ? ZERO : outputLiterals[i];
        }

        /** Sorts the ANDs by LEVELS, those of one as they come. */
        void finish() {
            Arrays.fill(levelFrom, 0);
            for (int g = 0; g < gates; g++) {
                if (number[g] != NONE && level[g] + 2 < levelFrom.length) {
                    levelFrom[level[g] + 2]++;
                }
            }
            for (int r = 1; r < levelFrom.length; r++) {
                levelFrom[r] += levelFrom[r - 1];
            }
            for (int g = 0; g < gates; g++) {
                int next = level[g] + 1;
                if (number[g] != NONE && next < levelFrom.length && levelFrom[next] < MOST_GATES) {
                    byLevel[levelFrom[next]] = g;
                    levelFrom[next]++;
                }
            }
        }

        int andsOfLevel(int r) {
            return r < 0 || r > MOST_LEVEL ? 0 : levelFrom[r + 1] - levelFrom[r];
        }

        int andOfLevel(int r, int i) {
            return i < 0 || i >= andsOfLevel(r) ? 0 : byLevel[levelFrom[r] + i];
        }

        /** Works all wires out in the clear, which tells what the PROGRAM means of these inputs. */
        void work(Inputs inputs, boolean asDealt) {
            for (int w = 0; w < inputs.words; w++) {
                int value = asDealt ? inputs.fixed[w] : inputs.value[w];
                for (int j = 0; j < inputs.bits[w] && inputs.wire[w] + j < values.length; j++) {
                    values[inputs.wire[w] + j] = value >>> j & 1;
                }
            }
            for (int g = 0; g < gates && inputWires + g < values.length; g++) {
                int x = clearOf(first[g]);
                int y = clearOf(second[g]);
                values[inputWires + g] = number[g] == NONE ? x ^ y : x & y;
            }
        }

        int clearOf(int x) {
            return x < 0 || x >> 1 >= values.length ? x & 1 : values[x >> 1] ^ x & 1;
        }
    }

    /** Words made of GATES: rows of LITERALS, the lowest bit first. */
    private static final class Logic {
        private final Circuit circuit;
        private final int width;
        private final int[] result;
        private final int[] rest;
        private final int[] taken;
        private final int[] shifted;
        private final int[] pairs;

        Logic(Circuit circuit, int width) {
            this.circuit = circuit;
            this.width = width;
            result = new int[width];
            rest = new int[width];
            taken = new int[width];
            shifted = new int[width + 1];
            pairs = new int[width];
        }

        int or(int x, int y) {
            return circuit.and(x ^ 1, y ^ 1) ^ 1;
        }

        int mux(int c, int x, int y) {
            return circuit.xor(y, circuit.and(c, circuit.xor(x, y)));
        }

        /** SUM of n bits, in the place of x. */
        void sum(int[] x, int from, int[] y, int with, int n, int carry) {
            int c = carry;
            for (int j = 0; j < n; j++) {
                int bit = x[from + j];
                int u = circuit.xor(y[with + j], c);
                x[from + j] = circuit.xor(bit, u);
                if (j < n - 1) {
                    int t = circuit.xor(bit, c);
                    c = circuit.xor(c, circuit.and(t, u));
                }
            }
        }

        void flip(int[] s, int x) {
            for (int j = 0; j < width; j++) {
                s[x + j] ^= 1;
            }
        }

        void minus(int[] s, int x, int y) {
            flip(s, y);
            sum(s, x, s, y, width, ONE);
        }

        void negate(int[] s, int x) {
            flip(s, x);
            Arrays.fill(result, ZERO);
            sum(result, 0, s, x, width, ONE);
            System.arraycopy(result, 0, s, x, width);
        }

        int less(int[] s, int x, int y) {
            int c = ONE;
            for (int j = 0; j < width; j++) {
                int highest = j == width - 1 ? 1 : 0;
                int u = circuit.xor(s[y + j] ^ highest ^ 1, c);
                int t = circuit.xor(s[x + j] ^ highest, c);
                c = circuit.xor(c, circuit.and(t, u));
            }
            return c ^ 1;
        }

        int equal(int[] s, int x, int y, int n) {
            for (int j = 0; j < n; j++) {
                pairs[j] = circuit.xor(s[x + j], s[y + j]) ^ 1;
            }
            return all(n);
        }

        int equalTo(int[] s, int x, int number) {
            if (number >= 1L << width) {
                return ZERO;
            }
            for (int j = 0; j < width; j++) {
                pairs[j] = circuit.xor(s[x + j], ZERO ^ number >>> j & 1) ^ 1;
            }
            return all(width);
        }

        private int all(int n) {
            int left = n;
            while (left > 1) {
                for (int i = 0; i + 1 < left; i += 2) {
                    pairs[i / 2] = circuit.and(pairs[i], pairs[i + 1]);
                }
                if ((left & 1) == 1) {
                    pairs[left / 2] = pairs[left - 1];
                }
                left = (left + 1) / 2;
            }
            return pairs[0];
        }

        void times(int[] s, int x, int y) {
            if (isKnown(s, x) && isKnown(s, y)) {
                put(s, x, number(s, x) * number(s, y));
                return;
            }
            for (int j = 0; j < width; j++) {
                result[j] = circuit.and(s[x + j], s[y]);
            }
            for (int k = 1; k < width; k++) {
                for (int j = 0; j < width - k; j++) {
                    rest[j] = circuit.and(s[x + j], s[y + k]);
                }
                sum(result, k, rest, 0, width - k, ZERO);
            }
            System.arraycopy(result, 0, s, x, width);
        }

        void divide(int[] s, int x, int y, boolean wantsRest) {
            if (isKnown(s, x) && isKnown(s, y)) {
                put(s, x, divided(number(s, x), number(s, y), wantsRest));
                return;
            }
            Arrays.fill(rest, ZERO);
            for (int k = width - 1; k >= 0; k--) {
                shifted[0] = s[x + k];
                System.arraycopy(rest, 0, shifted, 1, width);
                int c = takeAway(s, y);
                result[k] = c;
                for (int j = 0; j < width; j++) {
                    rest[j] = mux(c, taken[j], shifted[j]);
                }
            }
            System.arraycopy(wantsRest ? rest : result, 0, s, x, width);
        }

        /** A divisor taken from what is shifted: whether it could be. */
        private int takeAway(int[] s, int y) {
            int c = ONE;
            for (int j = 0; j <= width; j++) {
                int u = circuit.xor(j < width ? s[y + j] ^ 1 : ONE, c);
                if (j < width) {
                    taken[j] = circuit.xor(shifted[j], u);
                }
                int t = circuit.xor(shifted[j], c);
                c = circuit.xor(c, circuit.and(t, u));
            }
            return c;
        }

        private static long divided(long x, long y, boolean wantsRest) {
            if (y == 0) {
                return wantsRest ? x : MOST_NUMBER;
            }
            return wantsRest ? x % y : x / y;
        }

        void shift(int[] s, int x, int by) {
            System.arraycopy(s, x, result, 0, width);
            for (int j = 0; j < width; j++) {
                int from = j - by;
                s[x + j] = from < 0 || from >= width ? ZERO : result[from];
            }
        }

        /** Without sign, the number that CONSTANTs make. */
        long number(int[] s, int x) {
            long value = 0;
            for (int j = 0; j < width; j++) {
                value |= (s[x + j] == ONE ? 1L : 0L) << j;
            }
            return value;
        }

        void put(int[] s, int x, long number) {
            for (int j = 0; j < width; j++) {
                s[x + j] = ZERO ^ (int) (number >>> j & 1);
            }
        }

        /** Of CONSTANTs no GATE comes: these may be reckoned as numbers, which is far quicker in a long loop. */
        private boolean isKnown(int[] s, int x) {
            for (int j = 0; j < width; j++) {
                if (s[x + j] >= 0) {
                    return false;
                }
            }
            return true;
        }
    }

    /** Unrolls what was read and checked, and makes the circuit of it. */
    private static final class Builder {
        // Far above what 100,000 STEPS can lead to: even loops with empty BLOCKs take no ten millions.
        private static final int MOST_INSTRUCTIONS = 100_000_000;

        // How many EXPRs each instruction takes from the stack, by its number (a call: as many as it has, an if: besides
        // what it keeps).
        private static final int[] TAKES = {
            0, 0, 0, 0, 0, 1, 0, 1, 0, 0, 1, 0, 2, 1, 1, 1, 1, 0, 0, 2, 0,
            0, 0, 0, 0, 0, 1, 1, 0, 1, 0, 1, 1, 2,
            1, 1, 1, 3, 2, 2, 2, 2, 2, 2, 2, 2, 2, 2, 2, 2, 2, 2, 2, 2, 2, 2};

        private final Code code;
        private final Names names;
        private final Inputs inputs;
        private final Circuit circuit;
        private final Logic logic;
        private final int width;
        private final int[] sum;
        /** EXPRs that are not used up yet, each as wide as a word, and what the open ifs keep of the vars. */
        private final int[] stack;
        private int top;
        private final int[] vars;
        private final int[] returns = new int[MOST_CALLS];
        private final int[] frames = new int[MOST_CALLS];
        private int calls;
        private int frame;
        private final long[] now = new long[MOST_NAMES];
        private final long[] last = new long[MOST_NAMES];
        private int next;
        private int here;
        int steps;

        Builder(Code code, Names names, Inputs inputs, Circuit circuit, int width) {
            this.code = code;
            this.names = names;
            this.inputs = inputs;
            this.circuit = circuit;
            this.width = width;
            logic = new Logic(circuit, width);
            sum = new int[width];
            stack = new int[(MOST_WAITING + MOST_NESTED * MOST_WORDS) * width];
            vars = new int[MOST_WORDS * width];
        }

        void build() {
            Arrays.fill(vars, ZERO);
            top = 0;
            calls = 0;
            frame = 0;
            next = 0;
            steps = 0;
            for (int n = 0; n < MOST_INSTRUCTIONS && next < code.size && code.fault == 0; n++) {
                int i = next;
                next++;
                int op = code.op[i];
                if (!finds(op)) {
                    return;
                }
                if (op <= Code.LAST_STATEMENT) {
                    buildStatement(i, op);
                } else if (op <= Code.LAST_FACTOR) {
                    buildFactor(i, op);
                } else if (op < Code.EITHER) {
                    buildSign(i, op);
                } else {
                    buildOperator(i, op);
                }
                if (circuit.full || steps > MOST_STEPS) {
                    code.tell(8, here);
                }
            }
        }

        /** Whether the stack has what the instruction takes, and room for an EXPR more: the rows' sizes promise it. */
        private boolean finds(int op) {
            return op >= 0 && op < TAKES.length && top >= TAKES[op] * width && top + width <= stack.length;
        }

        private void buildStatement(int i, int op) {
            int d = code.arg[i];
            switch (op) {
                case Code.BEGIN:
                    here = code.at[i];
                    steps++;
                    break;
                case Code.DEF:
                    next = code.more[i];
                    break;
                case Code.END_DEF:
                    goBack();
                    break;
                case Code.VAR_SET:
                    top -= width;
                    keepAll(d);
                    break;
                case Code.VAR_ZERO:
                    clearRow(vars, names.base[d] * width, names.words(d) * width);
                    break;
                case Code.STORE:
                    top -= width;
                    keep(code.arg[d], 0, top);
                    break;
                case Code.STORE_ELEMENT:
                    storeElement(d);
                    break;
                case Code.OUTPUT:
                    top -= width;
                    circuit.addOutput(stack, top, bitsOf(d));
                    break;
                default:
                    buildFlow(i, op);
                    break;
            }
        }

        private void buildFlow(int i, int op) {
            switch (op) {
                case Code.IF:
                    openIf(i);
                    break;
                case Code.ELSE:
                    turnIf(code.arg[i]);
                    break;
                case Code.END_IF:
                    here = code.at[i];
                    closeIf(code.arg[i]);
                    break;
                case Code.FOR:
                    beginLoop(i);
                    break;
                case Code.NEXT:
                    takeNextTurn(i);
                    break;
                default:
                    break;
            }
        }

        private void buildFactor(int i, int op) {
            switch (op) {
                case Code.STEP:
                case Code.ELEMENT_NAME:
                case Code.CALL_NAME:
                    steps++;
                    break;
                case Code.NUMBER:
                    steps++;
                    pushNumber(code.arg[i]);
                    break;
                case Code.TRUTH:
                    steps++;
                    pushNumber(0);
                    stack[top - width] = code.arg[i];
                    break;
                case Code.NAME:
                    steps++;
                    pushNamed(code.arg[i]);
                    break;
                case Code.INDEX:
                    checkIndex(i);
                    break;
                case Code.ELEMENT:
                    readElement(code.arg[i]);
                    break;
                case Code.CALL:
                    call(code.arg[code.arg[i]]);
                    break;
                case Code.INT_OF:
                    clearRow(stack, top - width + 1, width - 1);
                    break;
                case Code.BIT_OF:
                    takeBit(i);
                    break;
                default:
                    break;
            }
        }

        private void buildSign(int i, int op) {
            int y = top - width;
            switch (op) {
                case Code.NEGATE:
                    logic.negate(stack, y);
                    break;
                case Code.FLIP:
                    logic.flip(stack, y);
                    break;
                case Code.NOT:
                    stack[y] ^= 1;
                    break;
                default:
                    choose(bitsOf(code.arg[i]));
                    break;
            }
        }

        private void choose(int bits) {
            int y = top - width;
            int x = y - width;
            int to = x - width;
            int condition = stack[to];
            for (int j = 0; j < bits; j++) {
                stack[to + j] = logic.mux(condition, stack[x + j], stack[y + j]);
            }
            top = x;
        }

        private void buildOperator(int i, int op) {
            int y = top - width;
            int x = y - width;
            int bits = bitsOf(code.arg[i]);
            top = y;
            switch (op) {
                case Code.SAME:
                case Code.OTHER:
                    stack[x] = logic.equal(stack, x, y, bits) ^ (op == Code.OTHER ? 1 : 0);
                    break;
                case Code.LESS:
                    stack[x] = logic.less(stack, x, y);
                    break;
                case Code.AT_MOST:
                    stack[x] = logic.less(stack, y, x) ^ 1;
                    break;
                case Code.MORE:
                    stack[x] = logic.less(stack, y, x);
                    break;
                case Code.AT_LEAST:
                    stack[x] = logic.less(stack, x, y) ^ 1;
                    break;
                case Code.UP:
                case Code.DOWN:
                    buildShift(i, x, y);
                    break;
                case Code.PLUS:
                    logic.sum(stack, x, stack, y, width, ZERO);
                    break;
                case Code.MINUS:
                    logic.minus(stack, x, y);
                    break;
                case Code.TIMES:
                    logic.times(stack, x, y);
                    break;
                case Code.DIVIDE:
                case Code.REST:
                    logic.divide(stack, x, y, op == Code.REST);
                    break;
                default:
                    buildBits(op, x, y, bits);
                    break;
            }
        }

        private void buildBits(int op, int x, int y, int bits) {
            for (int j = 0; j < bits; j++) {
                int one = stack[x + j];
                int other = stack[y + j];
                if (op == Code.XOR) {
                    stack[x + j] = circuit.xor(one, other);
                } else if (op == Code.AND || op == Code.BOTH) {
                    stack[x + j] = circuit.and(one, other);
                } else {
                    stack[x + j] = logic.or(one, other);
                }
            }
        }

        private void buildShift(int i, int x, int y) {
            long by = logic.number(stack, y);
            if (by >= width) {
                code.tell(7, code.more[i]);
                return;
            }
            logic.shift(stack, x, code.op[i] == Code.UP ? (int) by : -(int) by);
        }

        private void takeBit(int i) {
            top -= width;
            long which = logic.number(stack, top);
            if (which >= width) {
                code.tell(7, code.at[i]);
                return;
            }
            int x = top - width;
            stack[x] = stack[x + (int) which];
        }

        private void checkIndex(int i) {
            int head = code.arg[i];
            if (code.more[head] != 0 && logic.number(stack, top - width) >= names.size[code.arg[head]]) {
                code.tell(7, code.at[i]);
            }
        }

        /** The element, in the place of its index. */
        private void readElement(int head) {
            int d = code.arg[head];
            int index = top - width;
            if (code.more[head] != 0) {
                load(d, (int) logic.number(stack, index), index);
                return;
            }
            Arrays.fill(sum, ZERO);
            for (int k = 0; k < names.size[d]; k++) {
                int chosen = logic.equalTo(stack, index, k);
                for (int j = 0; j < bitsOf(names.sort[d]); j++) {
                    sum[j] = circuit.xor(sum[j], circuit.and(chosen, literalOf(d, k, j)));
                }
            }
            System.arraycopy(sum, 0, stack, index, width);
        }

        private void storeElement(int head) {
            int d = code.arg[head];
            top -= 2 * width;
            int value = top + width;
            if (code.more[head] != 0) {
                keep(d, (int) logic.number(stack, top), value);
                return;
            }
            for (int k = 0; k < names.size[d]; k++) {
                int chosen = logic.equalTo(stack, top, k);
                int to = (names.base[d] + k) * width;
                for (int j = 0; j < bitsOf(names.sort[d]); j++) {
                    vars[to + j] = logic.mux(chosen, stack[value + j], vars[to + j]);
                }
            }
        }

        private void keepAll(int d) {
            for (int k = 0; k < names.words(d); k++) {
                keep(d, k, top);
            }
        }

        /** Of a bit the rest of its var's word stays 0, so that an if may go over words alike. */
        private void keep(int d, int k, int from) {
            System.arraycopy(stack, from, vars, (names.base[d] + k) * width, bitsOf(names.sort[d]));
        }

        private static void clearRow(int[] row, int from, int count) {
            for (int i = from; i < from + count; i++) {
                row[i] = ZERO;
            }
        }

        private void load(int d, int k, int to) {
            for (int j = 0; j < bitsOf(names.sort[d]); j++) {
                stack[to + j] = literalOf(d, k, j);
            }
        }

        private int literalOf(int d, int k, int j) {
            int word = names.base[d] + k;
            return names.kind[d] == Names.VAR ? vars[word * width + j] : 2 * (inputs.wire[word] + j);
        }

        private void pushNamed(int d) {
            if (names.kind[d] == Names.LOOP) {
                pushNumber(now[d]);
                return;
            }
            if (names.kind[d] == Names.PARAM) {
                System.arraycopy(stack, frame + names.base[d] * width, stack, top, width);
            } else {
                load(d, 0, top);
            }
            top += width;
        }

        private void pushNumber(long number) {
            logic.put(stack, top, number);
            top += width;
        }

        /** The EXPRs of a call stay where they are while its def is worked out. */
        private void call(int d) {
            if (calls >= MOST_CALLS || top < names.params[d] * width) {
                return;
            }
            returns[calls] = next;
            frames[calls] = frame;
            calls++;
            frame = top - names.params[d] * width;
            next = names.base[d];
        }

        private void goBack() {
            if (calls == 0) {
                return;
            }
            calls--;
            System.arraycopy(stack, top - width, stack, frame, width);
            top = frame + width;
            frame = frames[calls];
            next = returns[calls];
        }

        private void openIf(int head) {
            int size = code.more[head] * width;
            int from = code.arg[head] * width;
            if (from + size > vars.length || top + size > stack.length) {
                return;
            }
            System.arraycopy(vars, from, stack, top, size);
            top += size;
        }

        /** What the first BLOCK made of the vars is kept, and they are again as they were ahead of it. */
        private void turnIf(int head) {
            int size = code.more[head] * width;
            int from = code.arg[head] * width;
            if (from + size > vars.length || top < size) {
                return;
            }
            for (int i = 0; i < size; i++) {
                int kept = stack[top - size + i];
                stack[top - size + i] = vars[from + i];
                vars[from + i] = kept;
            }
        }

        private void closeIf(int head) {
            int size = code.more[head] * width;
            int from = code.arg[head] * width;
            if (from + size > vars.length || top < size + width) {
                return;
            }
            top -= size + width;
            int condition = stack[top];
            for (int i = 0; i < size; i++) {
                vars[from + i] = logic.mux(condition, stack[top + width + i], vars[from + i]);
            }
        }

        private void beginLoop(int i) {
            int d = code.arg[i];
            if (d < 0 || d >= MOST_NAMES) {
                return;
            }
            top -= 2 * width;
            now[d] = logic.number(stack, top);
            last[d] = logic.number(stack, top + width);
            if (now[d] > last[d]) {
                next = code.more[i];
            } else if (last[d] - now[d] >= MOST_TURNS) {
                code.tell(7, code.at[i]);
            }
        }

        private void takeNextTurn(int i) {
            int d = code.arg[i];
            if (d >= 0 && d < MOST_NAMES && now[d] < last[d]) {
                now[d]++;
                next = code.more[i];
            }
        }

        private int bitsOf(int sort) {
            return sort == BIT ? 1 : width;
        }
    }

    /**
     * Cuts bits into shares. What the parties' messages will say is settled with the cutting: so all shares of all
     * wires are worked out at once, the bit p of each int being party p's, and only who knows them yet is left to the
     * messages.
     */
    private static final class Dealer {
        private final int parties;
        private final byte[] queue = new byte[MOST_DRAWS];
        int waiting;
        private int used;
        int seed = 1;
        private final int[] shares;
        private final int[] a = new int[MOST_GATES];
        private final int[] b = new int[MOST_GATES];
        private final int[] c = new int[MOST_GATES];

        Dealer(int parties, int width) {
            this.parties = parties;
            shares = new int[MOST_WORDS * width + MOST_GATES];
        }

        int keep(long bits, int n) {
            for (int i = 0; i < n && waiting < MOST_DRAWS; i++) {
                queue[waiting] = (byte) (bits >>> i & 1);
                waiting++;
            }
            return waiting;
        }

        void forgetUsed() {
            System.arraycopy(queue, used, queue, 0, waiting - used);
            waiting -= used;
            used = 0;
        }

        private int draw() {
            if (used < waiting) {
                used++;
                return queue[used - 1];
            }
            seed = seed * 1103515245 + 12345;
            return seed >>> 16 & 1;
        }

        /** A draw for each party but one. */
        private int drawBut(int left) {
            int drawn = 0;
            for (int p = 0; p < parties; p++) {
                if (p != left) {
                    drawn |= draw() << p;
                }
            }
            return drawn;
        }

        void cutInputs(Inputs inputs) {
            for (int w = 0; w < inputs.words; w++) {
                int party = inputs.owner[w];
                for (int j = 0; j < inputs.bits[w] && inputs.wire[w] + j < shares.length; j++) {
                    int others = drawBut(party);
                    int own = parity(others) ^ inputs.fixed[w] >>> j & 1;
                    shares[inputs.wire[w] + j] = others | own << party;
                }
            }
        }

        void cutTriples(int ands) {
            for (int n = 0; n < ands && n < MOST_GATES; n++) {
                a[n] = drawBut(NONE);
                b[n] = drawBut(NONE);
                int others = drawBut(0);
                c[n] = others | parity(others) ^ parity(a[n]) & parity(b[n]);
            }
        }

        void workShares(Circuit circuit) {
            int wire = circuit.wires() - circuit.gates;
            for (int g = 0; g < circuit.gates && wire + g < shares.length; g++) {
                int x = sharesOf(circuit.first[g]);
                int y = sharesOf(circuit.second[g]);
                int n = circuit.number[g];
                shares[wire + g] = n < 0 || n >= MOST_GATES ? x ^ y : sharesOfAnd(n, x, y);
            }
        }

        private int sharesOfAnd(int n, int x, int y) {
            int d = parity(x ^ a[n]);
            int e = parity(y ^ b[n]);
            return c[n] ^ -d & b[n] ^ -e & a[n] ^ d & e;
        }

        /** Party 0, the lowest bit, is the one that turns its share and has that of a CONSTANT. */
        int sharesOf(int x) {
            return x < 0 || x >> 1 >= shares.length ? x & 1 : shares[x >> 1] ^ x & 1;
        }

        int tripleBit(int n, int which, int party) {
            int[] row = which == 0 ? a : which == 1 ? b : c;
            return n < 0 || n >= MOST_GATES ? 0 : row[n] >> party & 1;
        }
    }

    /** The parties' rounds and their messages, each in an int: from, to and round; their bits are the dealer's. */
    private static final class Post {
        private final int parties;
        private final Circuit circuit;
        private final Inputs inputs;
        private final Dealer dealer;
        final int[] at;
        final int[] arrived;
        private final int[] arrivedBits;
        // Of the round that a party is AT and of the next one: none can be further ahead of it.
        private final int[] came;
        private final int[] cameEarly;
        final int[] flight;
        int flying;
        int delivered;
        int done;
        private final int[] log;
        private final int logOfOne;

        Post(int parties, Circuit circuit, Inputs inputs, Dealer dealer) {
            this.parties = parties;
            this.circuit = circuit;
            this.inputs = inputs;
            this.dealer = dealer;
            at = new int[parties];
            arrived = new int[parties];
            arrivedBits = new int[parties];
            came = new int[parties];
            cameEarly = new int[parties];
            flight = new int[2 * parties * (parties - 1)];
            logOfOne = (parties - 1) * (MOST_LEVEL + 2);
            log = new int[parties * logOfOne];
        }

        static int from(int m) {
            return m & 15;
        }

        static int to(int m) {
            return m >> 4 & 15;
        }

        static int round(int m) {
            return m >> 8;
        }

        void begin() {
            Arrays.fill(at, 0);
            Arrays.fill(arrived, 0);
            Arrays.fill(arrivedBits, 0);
            Arrays.fill(came, 0);
            Arrays.fill(cameEarly, 0);
            flying = 0;
            delivered = 0;
            done = 0;
            for (int p = 0; p < parties; p++) {
                send(p);
            }
        }

        private int send(int p) {
            int sent = 0;
            for (int q = 0; q < parties && flying < flight.length; q++) {
                if (q != p) {
                    flight[flying] = p | q << 4 | at[p] << 8;
                    flying++;
                    sent++;
                }
            }
            return sent;
        }

        int bring(int k) {
            int m = flight[k];
            flying--;
            System.arraycopy(flight, k + 1, flight, k, flying - k);
            delivered++;
            int p = to(m);
            if (arrived[p] < logOfOne) {
                log[p * logOfOne + arrived[p]] = m;
                arrived[p]++;
                arrivedBits[p] += bitsOf(m);
            }
            if (round(m) == at[p]) {
                came[p]++;
            } else {
                cameEarly[p]++;
            }
            return goOn(p);
        }

        private int goOn(int p) {
            int sent = 0;
            for (int n = 0; n <= MOST_LEVEL + 2 && came[p] == parties - 1 && !isDone(p); n++) {
                at[p]++;
                came[p] = cameEarly[p];
                cameEarly[p] = 0;
                if (isDone(p)) {
                    done++;
                } else {
                    sent += send(p);
                }
            }
            return sent;
        }

        boolean isDone(int p) {
            return at[p] > circuit.depth + 1;
        }

        int bitsOf(int m) {
            int r = round(m);
            if (r == 0) {
                return inputs.own[from(m)];
            }
            return r > circuit.depth ? circuit.allOutputBits() : 2 * circuit.andsOfLevel(r);
        }

        int bitOf(int m, int i) {
            int r = round(m);
            if (r == 0) {
                return dealer.sharesOf(2 * inputs.wireOf(from(m), i)) >> to(m) & 1;
            }
            if (r > circuit.depth) {
                return dealer.sharesOf(circuit.anyOutputLiteral(i)) >> from(m) & 1;
            }
            int g = circuit.andOfLevel(r, i / 2);
            int which = i & 1;
            int shares = dealer.sharesOf(which == 0 ? circuit.first[g] : circuit.second[g]);
            return shares >> from(m) & 1 ^ dealer.tripleBit(circuit.number[g], which, from(m));
        }

        int viewBits(int p) {
            return inputs.own[p] * parties + 3 * circuit.ands + arrivedBits[p];
        }

        int viewBit(int p, int i) {
            int own = inputs.own[p];
            if (i < own) {
                return parity(dealer.sharesOf(2 * inputs.wireOf(p, i)));
            }
            int left = i - own;
            int others = parties - 1;
            if (others > 0 && left < own * others) {
                int q = left % others;
                return dealer.sharesOf(2 * inputs.wireOf(p, left / others)) >> (q < p ? q : q + 1) & 1;
            }
            left -= own * others;
            if (left < 3 * circuit.ands) {
                return dealer.tripleBit(left / 3, left % 3, p);
            }
            return arrivedBit(p, left - 3 * circuit.ands);
        }

        private int arrivedBit(int p, int i) {
            int left = i;
            for (int k = 0; k < arrived[p]; k++) {
                int m = log[p * logOfOne + k];
                int bits = bitsOf(m);
                if (left < bits) {
                    return bitOf(m, left);
                }
                left -= bits;
            }
            return NONE;
        }
    }
}
