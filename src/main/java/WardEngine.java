import java.util.Arrays;

/**
 * A machine whose words, registers, code and place in the code carry tags, with a policy of rules
 * by which tags come of tags. Nothing is made after the constructor: all calls share its rows.
 */
public final class WardEngine {
    public static final int NONE = -1;

    private static final int MOST_SIGNS = 900;
    private static final int MOST_DIGITS = 7;
    private static final int MOST_LETTERS = 8;
    private static final int MOST_OPEN = 10;
    private static final int MOST_RUN = 2000;
    private static final int MOST_CASES = 4096;

    private static final int PLACES = 64;
    private static final int WORD_PLACES = 96;
    private static final int PC = 8;
    private static final int MOST_INPUTS = 16;
    private static final int MOST_OUTPUTS = 40;
    private static final int MOST_MADE = 16;
    private static final int MOST_PAIRS = 60;
    private static final int FIRST_PAIR = 1000000;

    // The kinds of instructions, in the order of KIND_WORDS.
    private static final int KINDS = 22;
    private static final int HALT = 0;
    private static final int CONSTANT = 1;
    private static final int MOVE = 2;
    private static final int ADD = 3;
    private static final int SUBTRACT = 4;
    private static final int MULTIPLY = 5;
    private static final int AND = 6;
    private static final int OR = 7;
    private static final int XOR = 8;
    private static final int BELOW = 9;
    private static final int LIKE = 10;
    private static final int LOAD = 11;
    private static final int STORE = 12;
    private static final int JUMP = 13;
    private static final int BRANCH = 14;
    private static final int GO = 15;
    private static final int LINK = 16;
    private static final int OUT = 17;
    private static final int IN = 18;
    private static final int MAKE = 19;
    private static final int DROP = 20;
    private static final int MARK = 21;

    // The names of a rule, in the order of NAME_WORDS.
    private static final int NAMES = 15;
    private static final int NAME_PC = 0;
    private static final int NAME_A = 1;
    private static final int NAME_B = 2;
    private static final int NAME_C = 3;
    private static final int NAME_VA = 4;
    private static final int NAME_VB = 5;
    private static final int NAME_VC = 6;
    private static final int NAME_W = 7;
    private static final int NAME_O = 8;
    private static final int NAME_I = 9;
    private static final int NAME_N = 10;
    private static final int NAME_CODE = 11;
    private static final int NAME_BEFORE = 12;
    private static final int NAME_CLEAR = 13;
    private static final int NAME_FRESH = 14;
    private static final int ALL_NAMES = (1 << NAMES) - 1;
    private static final int BIT_PAIR = 1 << 15;
    private static final int BIT_BASE = 1 << 16;
    private static final int NO_SUCH_WORD = -2;

    private static final String KIND_WORDS = "halt constant move add subtract multiply and or xor below like load store jump branch go link out in make drop mark ";
    private static final String NAME_WORDS = "pc a b c va vb vc w o i n code before clear fresh ";
    private static final String OTHER_WORDS = "pair first second base need tag next owner at word register input held ";

    // Tokens. A word is its number in the three lists above; a step of a rule is the token it comes of.
    private static final int FIRST_NAME = KINDS;
    private static final int PAIR = FIRST_NAME + NAMES;
    private static final int FIRST = PAIR + 1;
    private static final int SECOND = PAIR + 2;
    private static final int BASE = PAIR + 3;
    private static final int NEED = PAIR + 4;
    private static final int TAG = PAIR + 5;
    private static final int NEXT = PAIR + 6;
    private static final int OWNER = PAIR + 7;
    private static final int AT = PAIR + 8;
    private static final int WORD = PAIR + 9;
    private static final int REGISTER = PAIR + 10;
    private static final int INPUT = PAIR + 11;
    private static final int HELD = PAIR + 12;
    private static final int KNOWN_WORDS = PAIR + 13;
    private static final int END = 100;
    private static final int NUMBER = 101;
    private static final int BAD = 102;
    private static final int NAME = 103;
    private static final int NEGATE = 104;
    private static final int SINGLE = 128;
    private static final int DOUBLE = 256;
    private static final String SIGNS = ":;=<|&^+-!~(),?";
    private static final int COLON = SINGLE + ':';
    private static final int SEMICOLON = SINGLE + ';';
    private static final int BECOMES = SINGLE + '=';
    private static final int LESS = SINGLE + '<';
    private static final int EITHER = SINGLE + '|';
    private static final int BOTH = SINGLE + '&';
    private static final int ONE_OF = SINGLE + '^';
    private static final int PLUS = SINGLE + '+';
    private static final int MINUS = SINGLE + '-';
    private static final int NOT = SINGLE + '!';
    private static final int TURN = SINGLE + '~';
    private static final int LEFT = SINGLE + '(';
    private static final int RIGHT = SINGLE + ')';
    private static final int COMMA = SINGLE + ',';
    private static final int QUERY = SINGLE + '?';
    private static final int EQUAL = DOUBLE + '=';
    private static final int UNEQUAL = DOUBLE + '!';
    private static final int AT_MOST = DOUBLE + '<';

    // Which of tag, next and owner a rule tells.
    private static final int TELLS_TAG = 1;
    private static final int TELLS_NEXT = 2;
    private static final int TELLS_OWNER = 4;

    // How an instruction ended, and the state of a machine.
    private static final int GOES_ON = 0;
    private static final int HALTED = 1;
    private static final int WRONG = 2;
    private static final int VIOLATION = 3;
    private static final int NO_ROOM = 4;
    private static final int WAITS = 5;

    // How a rule was asked.
    private static final int NOT_ASKED = 0;
    private static final int WORKED_OUT = 1;
    private static final int ASKED = 2;
    private static final int HIT = 3;

    // Cells of a machine's figures, as state() numbers them; the rings know the last two.
    private static final int FIGURES = 8;
    private static final int F_STATE = 0;
    private static final int F_OUTPUTS = 1;
    private static final int F_DONE = 2;
    private static final int F_QUESTIONS = 3;
    private static final int F_HITS = 4;
    private static final int F_INPUTS = 5;
    private static final int F_MAKES = 6;
    private static final int F_PAIRS = 7;
    private static final int F_CACHE = 8;
    private static final int F_JOURNAL = 9;

    // Cells of a kind's counts, as count() numbers them.
    private static final int COUNTS = 4;
    private static final int C_DONE = 0;
    private static final int C_QUESTIONS = 1;
    private static final int C_HITS = 2;
    private static final int C_NOT_DONE = 3;

    // Cells of a question with its answer, as cacheOf() numbers them; the blame has a cell between.
    private static final int CACHE_ROWS = 8;
    private static final int R_KIND = 0;
    private static final int R_ENDED = 1;
    private static final int R_TAG = 2;
    private static final int R_NEXT = 3;
    private static final int R_OWNER = 4;
    private static final int R_BLAME = 5;
    private static final int R_NAMES = 10;
    private static final int RECORD = R_NAMES + NAMES;

    // Cells of a row of the journal, as journal() numbers them.
    private static final int JOURNAL_ROWS = 16;
    private static final int J_PLACE = 0;
    private static final int J_KIND = 1;
    private static final int J_HOW = 2;
    private static final int J_TAG = 3;
    private static final int J_NEXT = 4;
    private static final int J_ENDED = 5;
    private static final int ENTRY = 6;

    private final Reader reader;
    private final PolicyReader policyReader;
    private final ImageReader imageReader;
    private final Stepper stepper;
    private final Comparer comparer;
    private final Policy kept;
    private final StringBuilder line;
    private Policy rules;
    private Machine hand;
    private Machine other;

    public WardEngine() {
        reader = new Reader();
        policyReader = new PolicyReader(reader);
        imageReader = new ImageReader(reader);
        stepper = new Stepper();
        comparer = new Comparer();
        kept = new Policy();
        line = new StringBuilder();
        rules = new Policy();
        hand = new Machine();
        other = new Machine();
    }

    public int put(int signs) throws IllegalArgumentException, UnsupportedOperationException {
        int more = 0;
        for (int shift = 0; shift < 32; shift += 8) {
            int sign = (signs >> shift) & 255;
            if (sign != 0 && !Reader.mayStand(sign)) {
                throw new IllegalArgumentException("a byte that is no sign");
            }
            more += sign == 0 ? 0 : 1;
        }
        if (reader.length + more > MOST_SIGNS) {
            throw new UnsupportedOperationException("the text is full");
        }
        for (int shift = 0; shift < 32; shift += 8) {
            reader.append((signs >> shift) & 255);
        }
        return reader.length;
    }

    public void end(int n) throws IllegalArgumentException {
        if (n < 0 || n > reader.length) {
            throw new IllegalArgumentException("the text has not so many signs");
        }
        reader.length = n;
    }

    public int policy() {
        int fault = policyReader.read();
        if (fault != NONE) {
            return fault;
        }
        rules = policyReader.exchange(rules);
        hand.forgetAnswers();
        other.forgetAnswers();
        return NONE;
    }

    public int image() {
        int fault = imageReader.read();
        if (fault != NONE) {
            return fault;
        }
        hand = imageReader.exchange(hand);
        return NONE;
    }

    public int listing(int k, int i) throws IndexOutOfBoundsException {
        if (k < 0 || k >= PLACES || i < 0) {
            throw new IndexOutOfBoundsException("no such place or sign");
        }
        writeListing(hand.code[k], hand.codeTags[k]);
        return i < line.length() ? line.charAt(i) : NONE;
    }

    public int codeOf(int k, int what) throws IndexOutOfBoundsException, IllegalArgumentException {
        if (k < 0 || k >= PLACES) {
            throw new IndexOutOfBoundsException("no such place of code");
        }
        if (what < 0 || what > 1) {
            throw new IllegalArgumentException("what is 0 or 1");
        }
        return what == 0 ? hand.code[k] : hand.codeTags[k];
    }

    public void begin(int clear) {
        hand.restart(clear);
    }

    public void code(int k, int v, int tag) throws IndexOutOfBoundsException {
        if (k < 0 || k >= PLACES) {
            throw new IndexOutOfBoundsException("no such place of code");
        }
        hand.setCode(k, v, tag);
    }

    public void word(int k, int v, int held, int owner) throws IndexOutOfBoundsException {
        if (k < 0 || k >= WORD_PLACES) {
            throw new IndexOutOfBoundsException("no such word");
        }
        hand.setWord(k, v, held, owner);
    }

    public void register(int r, int v, int tag) throws IndexOutOfBoundsException {
        if (r < 0 || r > PC) {
            throw new IndexOutOfBoundsException("no such register");
        }
        hand.setRegister(r, v, tag);
    }

    public int input(int v, int tag) throws UnsupportedOperationException {
        if (hand.figures[F_INPUTS] >= MOST_INPUTS) {
            throw new UnsupportedOperationException("no room for an input");
        }
        hand.addInput(v, tag);
        return hand.figures[F_INPUTS];
    }

    public int run(int n) throws IllegalArgumentException, IllegalStateException {
        if (n < 0 || n > MOST_RUN) {
            throw new IllegalArgumentException("n is 0 .. 2000");
        }
        if (hand.figures[F_STATE] != GOES_ON && hand.figures[F_STATE] != WAITS) {
            throw new IllegalStateException("the machine has stopped");
        }
        int done = 0;
        for (int k = 0; k < n; k++) {
            done += stepper.attempt(hand, rules) ? 1 : 0;
            if (hand.figures[F_STATE] != GOES_ON) {
                break;
            }
        }
        return done;
    }

    public int state(int what) throws IllegalArgumentException {
        if (what < 0 || what > F_JOURNAL) {
            throw new IllegalArgumentException("what is 0 .. 9");
        }
        if (what == F_CACHE) {
            return hand.cache.size;
        }
        return what == F_JOURNAL ? hand.journal.size : hand.figures[what];
    }

    public int registerOf(int r, int what) throws IndexOutOfBoundsException, IllegalArgumentException {
        if (r < 0 || r > PC) {
            throw new IndexOutOfBoundsException("no such register");
        }
        if (what < 0 || what > 1) {
            throw new IllegalArgumentException("what is 0 or 1");
        }
        return what == 0 ? hand.registers[r] : hand.registerTags[r];
    }

    public int wordOf(int k, int what) throws IndexOutOfBoundsException, IllegalArgumentException {
        if (k < 0 || k >= WORD_PLACES) {
            throw new IndexOutOfBoundsException("no such word");
        }
        if (what < 0 || what > 2) {
            throw new IllegalArgumentException("what is 0, 1 or 2");
        }
        if (what == 0) {
            return hand.words[k];
        }
        return what == 1 ? hand.helds[k] : hand.owners[k];
    }

    public int output(int i) throws IndexOutOfBoundsException {
        if (i < 0 || i >= hand.keptOutputs()) {
            throw new IndexOutOfBoundsException("no such output is kept");
        }
        return hand.outputs[i];
    }

    public int pairOf(int k, int what) throws IndexOutOfBoundsException, IllegalArgumentException {
        if (k < 0 || k >= hand.figures[F_PAIRS]) {
            throw new IndexOutOfBoundsException("no such pair");
        }
        if (what < 0 || what > 1) {
            throw new IllegalArgumentException("what is 0 or 1");
        }
        return what == 0 ? hand.firsts[k] : hand.seconds[k];
    }

    public int names(int kind) throws IllegalArgumentException {
        if (kind < 0 || kind >= KINDS) {
            throw new IllegalArgumentException("no such kind");
        }
        return rules.named[kind];
    }

    public int blame() {
        return hand.blame;
    }

    public int journal(int i, int what) throws IndexOutOfBoundsException, IllegalArgumentException {
        if (i < 0 || i >= hand.journal.size) {
            throw new IndexOutOfBoundsException("the journal has not so many");
        }
        if (what < 0 || what >= ENTRY) {
            throw new IllegalArgumentException("what is 0 .. 5");
        }
        return hand.journal.cell(hand.journal.size - 1 - i, what);
    }

    public int count(int kind, int what) throws IllegalArgumentException {
        if (kind < 0 || kind >= KINDS || what < 0 || what >= COUNTS) {
            throw new IllegalArgumentException("no such kind or count");
        }
        return hand.counts[kind * COUNTS + what];
    }

    public int cacheOf(int i, int what) throws IndexOutOfBoundsException, IllegalArgumentException {
        if (i < 0 || i >= hand.cache.size) {
            throw new IndexOutOfBoundsException("the cache has not so many");
        }
        if (what < 0 || what > R_OWNER && what < R_NAMES || what >= RECORD) {
            throw new IllegalArgumentException("what is 0 .. 4 or 10 .. 24");
        }
        return hand.cache.cell(i, what);
    }

    public void keep() {
        kept.become(rules);
    }

    public int differ(int kind, int most)
            throws IllegalArgumentException, IllegalStateException, UnsupportedOperationException {
        if (kind < 0 || kind >= KINDS || most < 1 || most > 7) {
            throw new IllegalArgumentException("no such kind, or most is not 1 .. 7");
        }
        if (!rules.mayBeCompared(kind) || !kept.mayBeCompared(kind)) {
            throw new IllegalStateException("no two rules that can be compared");
        }
        int varied = Comparer.variedNames(rules, kept, kind);
        int cases = Comparer.casesOf(varied, most);
        if (cases > MOST_CASES) {
            throw new UnsupportedOperationException("too many cases");
        }
        comparer.startCases(varied, most, cases);
        return comparer.firstUnlikeCase(rules, kept, kind, hand);
    }

    public int witness(int k) throws IllegalArgumentException, IllegalStateException {
        if (k < 0 || k >= NAMES) {
            throw new IllegalArgumentException("no such name");
        }
        if (!comparer.hasFound) {
            throw new IllegalStateException("no case was found");
        }
        return comparer.found[k];
    }

    public void twin() {
        other.become(hand);
    }

    public void swap() {
        Machine old = hand;
        hand = other;
        other = old;
    }

    public int unlike(int what) throws IllegalArgumentException {
        switch (what) {
            case 0:
                return hand.unlikeCode(other);
            case 1:
                return hand.unlikeWords(other);
            case 2:
                return hand.unlikeRegisters(other);
            case 3:
                return hand.unlikeOutputs(other);
            default:
                throw new IllegalArgumentException("what is 0 .. 3");
        }
    }

    private void writeListing(int instruction, int tag) {
        line.setLength(0);
        int kind = instruction & 31;
        if (kind < KINDS) {
            writeKind(kind);
        } else {
            line.append("none ");
            line.append(kind);
        }
        writeField(" a ", (instruction >> 5) & 7);
        writeField(" b ", (instruction >> 8) & 7);
        writeField(" c ", (instruction >> 11) & 7);
        writeField(" n ", instruction >> 16);
        writeField(" tag ", tag);
    }

    private void writeKind(int kind) {
        int blanks = 0;
        for (int i = 0; i < KIND_WORDS.length() && blanks <= kind; i++) {
            char sign = KIND_WORDS.charAt(i);
            if (sign == ' ') {
                blanks++;
            } else if (blanks == kind) {
                line.append(sign);
            }
        }
    }

    private void writeField(String name, int value) {
        if (value != 0) {
            line.append(name);
            line.append(value);
        }
    }

    /** The text, and its tokens one behind the other. */
    private static final class Reader {
        int length;
        int token;
        int place;
        int value;
        private int at;
        private int current;
        private final char[] signs = new char[MOST_SIGNS];
        private final int[] tokens = new int[MOST_SIGNS + 1];
        private final int[] places = new int[MOST_SIGNS + 1];
        private final int[] values = new int[MOST_SIGNS + 1];
        private final long[] known = new long[KNOWN_WORDS];

        Reader() {
            int count = packWords(KIND_WORDS, known, 0);
            count = packWords(NAME_WORDS, known, count);
            packWords(OTHER_WORDS, known, count);
        }

        static boolean mayStand(int sign) {
            return sign >= 32 && sign <= 126 || sign == '\n';
        }

        void append(int sign) {
            if (sign != 0 && length >= 0 && length < signs.length) {
                signs[length] = (char) sign;
                length++;
            }
        }

        /** Finds all tokens, up to the end or the first that is none, and goes to the first one. */
        void startOver() {
            at = 0;
            for (int k = 0; k < tokens.length; k++) {
                skipBlanks();
                places[k] = at;
                tokens[k] = readToken();
                values[k] = value;
                if (tokens[k] == END || tokens[k] == BAD) {
                    break;
                }
            }
            current = NONE;
            advance();
        }

        void advance() {
            // Nothing is read behind these two, so that they are never gone past.
            if (current >= 0 && (token == END || token == BAD)) {
                return;
            }
            current++;
            if (current >= 0 && current < tokens.length) {
                token = tokens[current];
                place = places[current];
                value = values[current];
            }
        }

        /** Goes on behind this token, if it is the one that is due. */
        boolean take(int due) {
            if (token != due) {
                return false;
            }
            advance();
            return true;
        }

        private void skipBlanks() {
            boolean remark = false;
            for (; at < length; at++) {
                char sign = signs[at];
                if (sign == '\n') {
                    remark = false;
                } else if (sign == '#') {
                    remark = true;
                } else if (sign != ' ' && !remark) {
                    return;
                }
            }
        }

        private int readToken() {
            if (at < 0 || at >= length) {
                return END;
            }
            char sign = signs[at];
            if (isLetter(sign)) {
                return readWord();
            }
            return isDigit(sign) ? readNumber() : readSign(sign);
        }

        private int readWord() {
            int from = at;
            long packed = 0;
            for (; at < length && isLetter(signs[at]); at++) {
                // A word that is longer than all known ones must not wrap round to one of them.
                if (at - from <= MOST_LETTERS) {
                    packed = packed * 32 + letterNumber(signs[at]);
                }
            }
            for (int k = 0; k < known.length; k++) {
                if (known[k] == packed) {
                    return k;
                }
            }
            return BAD;
        }

        private int readNumber() {
            int from = at;
            value = 0;
            for (; at < length && isDigit(signs[at]); at++) {
                if (at - from < MOST_DIGITS) {
                    value = value * 10 + (signs[at] - '0');
                }
            }
            return at - from > MOST_DIGITS ? BAD : NUMBER;
        }

        private int readSign(char sign) {
            at++;
            boolean mayDouble = sign == '=' || sign == '!' || sign == '<';
            if (mayDouble && at < length && signs[at] == '=') {
                at++;
                return DOUBLE + sign;
            }
            return SIGNS.indexOf(sign) >= 0 ? SINGLE + sign : BAD;
        }

        private static boolean isLetter(char sign) {
            return sign >= 'a' && sign <= 'z';
        }

        private static boolean isDigit(char sign) {
            return sign >= '0' && sign <= '9';
        }

        private static int letterNumber(char sign) {
            return sign - 'a' + 1;
        }

        private static int packWords(String list, long[] into, int from) {
            int k = from;
            long packed = 0;
            for (int i = 0; i < list.length() && k >= 0 && k < into.length; i++) {
                char sign = list.charAt(i);
                if (sign == ' ') {
                    into[k] = packed;
                    packed = 0;
                    k++;
                } else {
                    packed = packed * 32 + letterNumber(sign);
                }
            }
            return k;
        }
    }

    /** Rules as steps for a stack: those of a kind stand one behind the other, jumps go ahead only. */
    private static final class Policy {
        int length;
        final int[] steps = new int[MOST_SIGNS];
        final int[] extras = new int[MOST_SIGNS];
        final int[] starts = new int[KINDS];
        final int[] stops = new int[KINDS];
        final int[] named = new int[KINDS];
        final int[] told = new int[KINDS];

        Policy() {
            Arrays.fill(named, NONE);
        }

        void empty() {
            length = 0;
            Arrays.fill(named, NONE);
        }

        boolean hasRule(int kind) {
            return kind >= 0 && kind < named.length && named[kind] != NONE;
        }

        /** Whether there is a rule whose answers can be kept. */
        boolean mayBeCompared(int kind) {
            return hasRule(kind) && (named[kind] & (BIT_PAIR | BIT_BASE)) == 0;
        }

        /** One step more: its place. There are never more steps than tokens, so never too many. */
        int append(int step, int extra) {
            if (length < 0 || length >= steps.length || length >= extras.length) {
                return NONE;
            }
            steps[length] = step;
            extras[length] = extra;
            length++;
            return length - 1;
        }

        /** Lets the jump at a place go to the next step that comes. */
        void landHere(int jump) {
            if (jump >= 0 && jump < extras.length) {
                extras[jump] = length;
            }
        }

        void addRule(int kinds, int start, int namedThere, int toldThere) {
            for (int kind = 0; kind < KINDS; kind++) {
                if (((kinds >> kind) & 1) != 0) {
                    starts[kind] = start;
                    stops[kind] = length;
                    named[kind] = namedThere;
                    told[kind] = toldThere;
                }
            }
        }

        void become(Policy model) {
            length = model.length;
            copyRow(model.steps, steps);
            copyRow(model.extras, extras);
            copyRow(model.starts, starts);
            copyRow(model.stops, stops);
            copyRow(model.named, named);
            copyRow(model.told, told);
        }
    }

    /** Reads a text as a policy. Where a method answers false, the token at hand is the fault. */
    private static final class PolicyReader {
        private final Reader reader;
        private Policy target;
        private int ruled;
        private int named;
        private int told;

        PolicyReader(Reader reader) {
            this.reader = reader;
            target = new Policy();
        }

        /** The policy that was read, for one that may be written over. */
        Policy exchange(Policy old) {
            Policy ready = target;
            target = old;
            return ready;
        }

        /** The fault of the text; NONE if it has none. */
        int read() {
            target.empty();
            ruled = 0;
            reader.startOver();
            for (int k = 0; k <= KINDS && reader.token != END; k++) {
                if (!readRule()) {
                    return reader.place;
                }
            }
            return reader.token == END ? NONE : reader.place;
        }

        private boolean readRule() {
            int before = ruled;
            if (!readKinds() || !reader.take(COLON)) {
                return false;
            }
            int start = target.length;
            named = 0;
            told = 0;
            for (int k = 0; k < MOST_SIGNS && reader.token >= KINDS && reader.token != END; k++) {
                if (!readStatement()) {
                    return false;
                }
            }
            target.addRule(ruled & ~before, start, named, told);
            return true;
        }

        private boolean readKinds() {
            for (int k = 0; k < KINDS; k++) {
                int kind = reader.token;
                if (kind >= KINDS || ((ruled >> kind) & 1) != 0) {
                    return false;
                }
                ruled |= 1 << kind;
                reader.advance();
                if (reader.token != COMMA) {
                    return true;
                }
                reader.advance();
            }
            return false;
        }

        private boolean readStatement() {
            int word = reader.token;
            int place = reader.place;
            if (word < NEED || word > OWNER) {
                return false;
            }
            if (word != NEED) {
                int bit = 1 << (word - TAG);
                if ((told & bit) != 0) {
                    return false;
                }
                told |= bit;
            }
            reader.advance();
            if (word != NEED && !reader.take(BECOMES)) {
                return false;
            }
            if (!readExpression(0)) {
                return false;
            }
            target.append(word, place);
            return reader.take(SEMICOLON);
        }

        private boolean readExpression(int open) {
            if (!readParts(open)) {
                return false;
            }
            if (reader.token != QUERY) {
                return true;
            }
            if (open >= MOST_OPEN) {
                return false;
            }
            reader.advance();
            int choice = target.append(QUERY, 0);
            if (!readExpression(open + 1) || !reader.take(COLON)) {
                return false;
            }
            int way = target.append(COLON, 0);
            target.landHere(choice);
            if (!readExpression(open + 1)) {
                return false;
            }
            target.landHere(way);
            return true;
        }

        private boolean readParts(int open) {
            if (!readSum(open)) {
                return false;
            }
            int sign = reader.token;
            if (sign != EQUAL && sign != UNEQUAL && sign != LESS && sign != AT_MOST) {
                return true;
            }
            reader.advance();
            if (!readSum(open)) {
                return false;
            }
            target.append(sign, 0);
            return true;
        }

        private boolean readSum(int open) {
            if (!readTerm(open)) {
                return false;
            }
            for (int k = 0; k < MOST_SIGNS && isSumSign(reader.token); k++) {
                int sign = reader.token;
                reader.advance();
                if (!readTerm(open)) {
                    return false;
                }
                target.append(sign, 0);
            }
            return true;
        }

        private static boolean isSumSign(int token) {
            return token == EITHER || token == BOTH || token == ONE_OF || token == PLUS || token == MINUS;
        }

        private boolean readTerm(int open) {
            int token = reader.token;
            if (token == NOT || token == TURN || token == MINUS) {
                return readTurned(token, open);
            }
            if (token == LEFT) {
                return readBracket(open, false);
            }
            if (token >= PAIR && token <= BASE) {
                return readCall(token, open);
            }
            if (token == NUMBER) {
                target.append(NUMBER, reader.value);
            } else if (token >= FIRST_NAME && token < FIRST_NAME + NAMES) {
                target.append(NAME, token - FIRST_NAME);
                named |= 1 << (token - FIRST_NAME);
            } else {
                return false;
            }
            reader.advance();
            return true;
        }

        private boolean readTurned(int sign, int open) {
            if (open >= MOST_OPEN) {
                return false;
            }
            reader.advance();
            if (!readTerm(open + 1)) {
                return false;
            }
            target.append(sign == MINUS ? NEGATE : sign, 0);
            return true;
        }

        private boolean readBracket(int open, boolean two) {
            if (reader.token != LEFT || open >= MOST_OPEN) {
                return false;
            }
            reader.advance();
            if (!readExpression(open + 1)) {
                return false;
            }
            if (two && (!reader.take(COMMA) || !readExpression(open + 1))) {
                return false;
            }
            return reader.take(RIGHT);
        }

        private boolean readCall(int word, int open) {
            reader.advance();
            if (!readBracket(open, word == PAIR)) {
                return false;
            }
            target.append(word, 0);
            if (word == PAIR) {
                named |= BIT_PAIR;
            } else if (word == BASE) {
                named |= BIT_BASE;
            }
            return true;
        }
    }

    /** Reads a text as an image. Where a method answers false, the fault is noted or the token at hand. */
    private static final class ImageReader {
        // A number of seven digits is never beyond these.
        private static final int ANY_LEAST = -9999999;
        private static final int ANY_MOST = 9999999;

        private final Reader reader;
        private Machine target;
        private int nextPlace;
        private int number;
        private int fault;

        ImageReader(Reader reader) {
            this.reader = reader;
            target = new Machine();
        }

        /** The machine that was read, for one that may be written over. */
        Machine exchange(Machine old) {
            Machine ready = target;
            target = old;
            return ready;
        }

        /** The fault of the text; NONE if it has none. */
        int read() {
            target.restart(0);
            nextPlace = 0;
            fault = NONE;
            reader.startOver();
            boolean good = reader.token != FIRST_NAME + NAME_CLEAR || readClear();
            for (int k = 0; k < MOST_SIGNS && good && reader.token != END; k++) {
                good = readLine() && reader.take(SEMICOLON);
            }
            if (good && reader.token == END) {
                return NONE;
            }
            return fault == NONE ? reader.place : fault;
        }

        private boolean readClear() {
            reader.advance();
            if (!readAny()) {
                return false;
            }
            target.clear = number;
            return reader.take(SEMICOLON);
        }

        private boolean readLine() {
            int word = reader.token;
            if (word < KINDS) {
                return readInstruction(word);
            }
            switch (word) {
                case AT:
                    return readAt();
                case WORD:
                    return readWordLine();
                case REGISTER:
                    return readRegister();
                case INPUT:
                    return readInput();
                default:
                    return false;
            }
        }

        private boolean readAt() {
            reader.advance();
            if (!readNumber(0, PLACES - 1)) {
                return false;
            }
            nextPlace = number;
            return true;
        }

        private boolean readInstruction(int kind) {
            if (nextPlace < 0 || nextPlace >= PLACES) {
                return false;
            }
            reader.advance();
            int instruction = kind;
            int tag = 0;
            int given = 0;
            for (int k = 0; k < MOST_SIGNS; k++) {
                int field = reader.token;
                int bit = fieldBit(field);
                if (bit == 0 || (given & bit) != 0) {
                    break;
                }
                given |= bit;
                reader.advance();
                if (!readFieldNumber(field)) {
                    return false;
                }
                if (field == TAG) {
                    tag = number;
                } else {
                    instruction |= number << fieldShift(field);
                }
            }
            target.setCode(nextPlace, instruction, tag);
            nextPlace++;
            return true;
        }

        private static int fieldBit(int field) {
            switch (field) {
                case FIRST_NAME + NAME_A:
                    return 1;
                case FIRST_NAME + NAME_B:
                    return 2;
                case FIRST_NAME + NAME_C:
                    return 4;
                case FIRST_NAME + NAME_N:
                    return 8;
                case TAG:
                    return 16;
                default:
                    return 0;
            }
        }

        private static int fieldShift(int field) {
            switch (field) {
                case FIRST_NAME + NAME_A:
                    return 5;
                case FIRST_NAME + NAME_B:
                    return 8;
                case FIRST_NAME + NAME_C:
                    return 11;
                default:
                    return 16;
            }
        }

        private boolean readFieldNumber(int field) {
            if (field == TAG) {
                return readNumber(ANY_LEAST, ANY_MOST);
            }
            if (field == FIRST_NAME + NAME_N) {
                return readNumber(-32768, 32767);
            }
            return readNumber(0, 7);
        }

        private boolean readWordLine() {
            reader.advance();
            if (!readNumber(0, WORD_PLACES - 1)) {
                return false;
            }
            int k = number;
            if (!readAny()) {
                return false;
            }
            int v = number;
            if (!readOptional(HELD)) {
                return false;
            }
            int held = number;
            if (!readOptional(OWNER)) {
                return false;
            }
            target.setWord(k, v, held, number);
            return true;
        }

        private boolean readRegister() {
            reader.advance();
            if (!readNumber(0, PC)) {
                return false;
            }
            int r = number;
            if (!readAny()) {
                return false;
            }
            int v = number;
            if (!readOptional(TAG)) {
                return false;
            }
            target.setRegister(r, v, number);
            return true;
        }

        private boolean readInput() {
            if (target.figures[F_INPUTS] >= MOST_INPUTS) {
                return false;
            }
            reader.advance();
            if (!readAny()) {
                return false;
            }
            int v = number;
            if (!readOptional(TAG)) {
                return false;
            }
            target.addInput(v, number);
            return true;
        }

        /** The number behind a word, if it stands here; 0 otherwise. */
        private boolean readOptional(int word) {
            number = 0;
            if (reader.token != word) {
                return true;
            }
            reader.advance();
            return readNumber(ANY_LEAST, ANY_MOST);
        }

        private boolean readAny() {
            return readNumber(ANY_LEAST, ANY_MOST);
        }

        /** A number; it may have a minus ahead only where one below 0 may be. */
        private boolean readNumber(int least, int most) {
            int from = reader.place;
            boolean below = least < 0 && reader.token == MINUS;
            if (below) {
                reader.advance();
            }
            if (reader.token != NUMBER) {
                return false;
            }
            number = below ? -reader.value : reader.value;
            if (number < least || number > most) {
                fault = from;
                return false;
            }
            reader.advance();
            return true;
        }
    }

    /** Works out a rule for the names of a question, and has its answer; both are cells of the record. */
    private static final class Worker {
        // Ten open at once leave at most three values each behind.
        private static final int STACK = 64;

        final int[] record = new int[RECORD];
        private final int[] stack = new int[STACK];
        private int height;

        void workOut(Policy policy, int kind, Machine machine) {
            forgetAnswer();
            if (!policy.hasRule(kind)) {
                return;
            }
            height = 0;
            int stop = Math.min(policy.stops[kind], policy.steps.length);
            for (int at = Math.max(policy.starts[kind], 0); at < stop; at++) {
                int step = policy.steps[at];
                int extra = policy.extras[at];
                if (step == COLON || step == QUERY) {
                    boolean goes = step == COLON || pop() == 0;
                    // Jumps go ahead only, so that the loop ends with the steps.
                    at = goes ? Math.max(at, extra - 1) : at;
                } else if (step >= NEED && step <= OWNER) {
                    conclude(step, extra);
                } else {
                    int value = valueOf(step, extra, machine);
                    push(value);
                    if (step == PAIR && value == NONE) {
                        endWith(NO_ROOM);
                    }
                }
                if (record[R_ENDED] != GOES_ON) {
                    return;
                }
            }
        }

        private void forgetAnswer() {
            for (int cell = R_ENDED; cell < R_NAMES; cell++) {
                record[cell] = 0;
            }
            record[R_BLAME] = NONE;
        }

        private void endWith(int state) {
            forgetAnswer();
            record[R_ENDED] = state;
        }

        private void conclude(int word, int place) {
            int value = pop();
            switch (word) {
                case TAG:
                    record[R_TAG] = value;
                    break;
                case NEXT:
                    record[R_NEXT] = value;
                    break;
                case OWNER:
                    record[R_OWNER] = value;
                    break;
                default:
                    if (value == 0) {
                        endWith(VIOLATION);
                        record[R_BLAME] = place;
                    }
                    break;
            }
        }

        private int valueOf(int step, int extra, Machine machine) {
            switch (step) {
                case NUMBER:
                    return extra;
                case NAME:
                    return extra >= 0 && extra < NAMES ? record[R_NAMES + extra] : 0;
                case NOT:
                    return pop() == 0 ? 1 : 0;
                case TURN:
                    return ~pop();
                case NEGATE:
                    return -pop();
                case FIRST:
                    int whole = pop();
                    return machine.partOf(whole, machine.firsts, whole);
                case SECOND:
                    return machine.partOf(pop(), machine.seconds, 0);
                case BASE:
                    return machine.baseOf(pop());
                default:
                    int right = pop();
                    int left = pop();
                    return step == PAIR ? machine.pairWith(left, right) : combine(step, left, right);
            }
        }

        private static int combine(int sign, int left, int right) {
            switch (sign) {
                case EITHER:
                    return left | right;
                case BOTH:
                    return left & right;
                case ONE_OF:
                    return left ^ right;
                case PLUS:
                    return left + right;
                case MINUS:
                    return left - right;
                case EQUAL:
                    return left == right ? 1 : 0;
                case UNEQUAL:
                    return left != right ? 1 : 0;
                case LESS:
                    return left < right ? 1 : 0;
                default:
                    return left <= right ? 1 : 0;
            }
        }

        private void push(int value) {
            if (height >= 0 && height < stack.length) {
                stack[height] = value;
                height++;
            }
        }

        private int pop() {
            if (height <= 0 || height > stack.length) {
                return 0;
            }
            height--;
            return stack[height];
        }
    }

    /** Rows of one width, of which the last ones that came are kept. */
    private static final class Ring {
        int size;
        private int first;
        private final int most;
        private final int width;
        private final int[] cells;

        /** The cells have room for so many rows of that width. */
        Ring(int most, int width, int[] cells) {
            this.most = most;
            this.width = width;
            this.cells = cells;
        }

        void empty() {
            size = 0;
            first = 0;
        }

        void add(int[] row) {
            if (size < most) {
                size++;
            } else {
                first = first + 1 < most ? first + 1 : 0;
            }
            int start = startOf(size - 1);
            if (start >= 0 && start + width <= cells.length && row.length >= width) {
                System.arraycopy(row, 0, cells, start, width);
            }
        }

        /** A cell of the i-th row, 0 the one that came first. */
        int cell(int i, int what) {
            int at = startOf(i) + what;
            return at >= 0 && at < cells.length ? cells[at] : 0;
        }

        void fetch(int i, int[] row) {
            int start = startOf(i);
            if (start >= 0 && start + width <= cells.length && row.length >= width) {
                System.arraycopy(cells, start, row, 0, width);
            }
        }

        /** The row whose first cell, and all from a cell on, are those of this one; NONE. */
        int rowLike(int[] row, int from) {
            for (int i = 0; i < size; i++) {
                int start = startOf(i);
                if (start >= 0 && start + width <= cells.length && isLike(start, row, from)) {
                    return i;
                }
            }
            return NONE;
        }

        void become(Ring model) {
            size = model.size;
            first = model.first;
            copyRow(model.cells, cells);
        }

        private boolean isLike(int start, int[] row, int from) {
            if (row.length < width || row.length == 0 || cells[start] != row[0]) {
                return false;
            }
            for (int k = Math.max(from, 0); k < width; k++) {
                if (cells[start + k] != row[k]) {
                    return false;
                }
            }
            return true;
        }

        private int startOf(int i) {
            int row = first + i;
            return (row < most ? row : row - most) * width;
        }
    }

    /** All that one machine has. */
    private static final class Machine {
        int clear;
        int before;
        int blame;
        final int[] code = new int[PLACES];
        final int[] codeTags = new int[PLACES];
        final int[] words = new int[WORD_PLACES];
        final int[] helds = new int[WORD_PLACES];
        final int[] owners = new int[WORD_PLACES];
        final int[] registers = new int[PC + 1];
        final int[] registerTags = new int[PC + 1];
        final int[] inputs = new int[MOST_INPUTS];
        final int[] inputTags = new int[MOST_INPUTS];
        final int[] outputs = new int[MOST_OUTPUTS];
        final int[] firsts = new int[MOST_PAIRS];
        final int[] seconds = new int[MOST_PAIRS];
        final int[] figures = new int[FIGURES];
        final int[] counts = new int[KINDS * COUNTS];
        final Ring cache = new Ring(CACHE_ROWS, RECORD, new int[CACHE_ROWS * RECORD]);
        final Ring journal = new Ring(JOURNAL_ROWS, ENTRY, new int[JOURNAL_ROWS * ENTRY]);

        Machine() {
            before = NONE;
            blame = NONE;
        }

        void restart(int newClear) {
            clear = newClear;
            before = NONE;
            blame = NONE;
            Arrays.fill(code, 0);
            Arrays.fill(codeTags, 0);
            Arrays.fill(words, 0);
            Arrays.fill(helds, 0);
            Arrays.fill(owners, 0);
            Arrays.fill(registers, 0);
            Arrays.fill(registerTags, 0);
            Arrays.fill(figures, 0);
            Arrays.fill(counts, 0);
            cache.empty();
            journal.empty();
        }

        void become(Machine model) {
            clear = model.clear;
            before = model.before;
            blame = model.blame;
            copyRow(model.code, code);
            copyRow(model.codeTags, codeTags);
            copyRow(model.words, words);
            copyRow(model.helds, helds);
            copyRow(model.owners, owners);
            copyRow(model.registers, registers);
            copyRow(model.registerTags, registerTags);
            copyRow(model.inputs, inputs);
            copyRow(model.inputTags, inputTags);
            copyRow(model.outputs, outputs);
            copyRow(model.firsts, firsts);
            copyRow(model.seconds, seconds);
            copyRow(model.figures, figures);
            copyRow(model.counts, counts);
            cache.become(model.cache);
            journal.become(model.journal);
        }

        void forgetAnswers() {
            cache.empty();
            figures[F_QUESTIONS] = 0;
            figures[F_HITS] = 0;
        }

        void setCode(int k, int v, int tag) {
            if (k >= 0 && k < PLACES) {
                code[k] = v;
                codeTags[k] = tag;
            }
        }

        boolean hasWord(int k) {
            return k >= 0 && k < WORD_PLACES;
        }

        void setWord(int k, int v, int held, int owner) {
            if (hasWord(k)) {
                words[k] = v;
                helds[k] = held;
                owners[k] = owner;
            }
        }

        void setRegister(int r, int v, int tag) {
            if (r >= 0 && r <= PC) {
                registers[r] = v;
                registerTags[r] = tag;
            }
        }

        void addInput(int v, int tag) {
            int count = figures[F_INPUTS];
            if (count >= 0 && count < MOST_INPUTS) {
                inputs[count] = v;
                inputTags[count] = tag;
                figures[F_INPUTS] = count + 1;
            }
        }

        int takeInput() {
            int v = inputs[0];
            System.arraycopy(inputs, 1, inputs, 0, MOST_INPUTS - 1);
            System.arraycopy(inputTags, 1, inputTags, 0, MOST_INPUTS - 1);
            figures[F_INPUTS]--;
            return v;
        }

        int keptOutputs() {
            return Math.min(figures[F_OUTPUTS], MOST_OUTPUTS);
        }

        void putOut(int v) {
            int count = figures[F_OUTPUTS];
            if (count >= 0 && count < MOST_OUTPUTS) {
                outputs[count] = v;
            }
            figures[F_OUTPUTS] = count + 1;
        }

        /** The first of so many free words one behind the other; NONE. */
        int freePlace(int many) {
            if (many < 1 || many > MOST_MADE) {
                return NONE;
            }
            int free = 0;
            for (int k = 0; k < WORD_PLACES; k++) {
                free = owners[k] == 0 ? free + 1 : 0;
                if (free == many) {
                    return k - many + 1;
                }
            }
            return NONE;
        }

        void handOut(int first, int many, int owner) {
            for (int k = 0; k < many && k < MOST_MADE; k++) {
                setWord(first + k, 0, 0, owner);
            }
        }

        void free(int owner) {
            for (int k = 0; k < WORD_PLACES; k++) {
                if (owners[k] == owner) {
                    owners[k] = 0;
                }
            }
        }

        int baseOf(int owner) {
            for (int k = 0; k < WORD_PLACES; k++) {
                if (owners[k] == owner) {
                    return k;
                }
            }
            return NONE;
        }

        /** The number of a pair, which is made if need be; NONE if it would be one too many. */
        int pairWith(int left, int right) {
            int count = figures[F_PAIRS];
            for (int k = 0; k < count && k < MOST_PAIRS; k++) {
                if (firsts[k] == left && seconds[k] == right) {
                    return FIRST_PAIR + k;
                }
            }
            if (count < 0 || count >= MOST_PAIRS) {
                return NONE;
            }
            firsts[count] = left;
            seconds[count] = right;
            figures[F_PAIRS] = count + 1;
            return FIRST_PAIR + count;
        }

        /** A pair's part, of the row that has it; what is said otherwise, if the number is no pair's. */
        int partOf(int number, int[] parts, int otherwise) {
            int k = number - FIRST_PAIR;
            return k >= 0 && k < figures[F_PAIRS] && k < parts.length ? parts[k] : otherwise;
        }

        int unlikeCode(Machine model) {
            return earlier(unlikePlace(code, model.code, PLACES), unlikePlace(codeTags, model.codeTags, PLACES));
        }

        int unlikeWords(Machine model) {
            int tags = earlier(unlikePlace(helds, model.helds, WORD_PLACES), unlikePlace(owners, model.owners, WORD_PLACES));
            return earlier(unlikePlace(words, model.words, WORD_PLACES), tags);
        }

        int unlikeRegisters(Machine model) {
            int tags = unlikePlace(registerTags, model.registerTags, PC + 1);
            return earlier(unlikePlace(registers, model.registers, PC + 1), tags);
        }

        int unlikeOutputs(Machine model) {
            int both = Math.min(keptOutputs(), model.keptOutputs());
            int place = unlikePlace(outputs, model.outputs, both);
            if (place == NONE && keptOutputs() != model.keptOutputs()) {
                return both;
            }
            return place;
        }

        private static int unlikePlace(int[] one, int[] two, int count) {
            for (int k = 0; k < count && k < one.length && k < two.length; k++) {
                if (one[k] != two[k]) {
                    return k;
                }
            }
            return NONE;
        }

        private static int earlier(int one, int two) {
            if (one == NONE || two == NONE) {
                return Math.max(one, two);
            }
            return Math.min(one, two);
        }
    }

    /** Does instructions; its fields are of the one that is tried. */
    private static final class Stepper {
        private final Worker worker = new Worker();
        private final int[] entry = new int[ENTRY];
        private int place;
        private int codeTag;
        private int kind;
        private int a;
        private int b;
        private int c;
        private int n;
        private int reached;
        private int made;
        private int how;
        private int tag;
        private int next;
        private int owner;

        /** Tries the instruction at the PC: whether it was done. */
        boolean attempt(Machine machine, Policy policy) {
            how = NOT_ASKED;
            tag = 0;
            next = 0;
            int ended = tryOut(machine, policy);
            boolean done = ended == GOES_ON || ended == HALTED;
            machine.figures[F_STATE] = ended;
            if (done) {
                machine.figures[F_DONE]++;
                machine.before = codeTag;
            }
            if (how != NOT_ASKED) {
                addCount(machine, done ? C_DONE : C_NOT_DONE);
            }
            noteEntry(machine, ended);
            return done;
        }

        private void noteEntry(Machine machine, int ended) {
            entry[J_PLACE] = place;
            entry[J_KIND] = kind;
            entry[J_HOW] = how;
            entry[J_TAG] = tag;
            entry[J_NEXT] = next;
            entry[J_ENDED] = ended;
            machine.journal.add(entry);
        }

        private void addCount(Machine machine, int what) {
            if (kind >= 0 && kind < KINDS) {
                machine.counts[kind * COUNTS + what]++;
            }
        }

        private int tryOut(Machine machine, Policy policy) {
            place = machine.registers[PC];
            kind = NONE;
            if (place < 0 || place >= PLACES) {
                return WRONG;
            }
            decode(machine.code[place], machine);
            codeTag = machine.codeTags[place];
            if (!policy.hasRule(kind)) {
                return WRONG;
            }
            fillQuestion(machine, policy.named[kind]);
            ask(machine, policy);
            int ended = worker.record[R_ENDED];
            machine.blame = worker.record[R_BLAME];
            if (ended == GOES_ON) {
                ended = hindrance(machine);
            }
            if (ended != GOES_ON) {
                return ended;
            }
            settle(machine, policy.told[kind]);
            perform(machine);
            return kind == HALT ? HALTED : GOES_ON;
        }

        private void decode(int instruction, Machine machine) {
            kind = instruction & 31;
            a = (instruction >> 5) & 7;
            b = (instruction >> 8) & 7;
            c = (instruction >> 11) & 7;
            n = instruction >> 16;
            reached = machine.registers[b] + n;
        }

        private void ask(Machine machine, Policy policy) {
            int[] record = worker.record;
            if (!policy.mayBeCompared(kind)) {
                how = WORKED_OUT;
                worker.workOut(policy, kind, machine);
                return;
            }
            machine.figures[F_QUESTIONS]++;
            addCount(machine, C_QUESTIONS);
            int row = machine.cache.rowLike(record, R_NAMES);
            if (row == NONE) {
                how = ASKED;
                worker.workOut(policy, kind, machine);
                machine.cache.add(record);
            } else {
                how = HIT;
                machine.figures[F_HITS]++;
                addCount(machine, C_HITS);
                machine.cache.fetch(row, record);
            }
        }

        private void fillQuestion(Machine machine, int named) {
            worker.record[R_KIND] = kind;
            for (int k = 0; k < NAMES; k++) {
                worker.record[R_NAMES + k] = ((named >> k) & 1) == 0 ? 0 : nameValue(machine, k);
            }
        }

        private int nameValue(Machine machine, int name) {
            switch (name) {
                case NAME_PC:
                    return machine.registerTags[PC];
                case NAME_A:
                    return machine.registerTags[a];
                case NAME_B:
                    return machine.registerTags[b];
                case NAME_C:
                    return machine.registerTags[c];
                case NAME_VA:
                    return machine.registers[a];
                case NAME_VB:
                    return machine.registers[b];
                case NAME_VC:
                    return machine.registers[c];
                case NAME_W:
                    return ofWord(machine, machine.helds);
                case NAME_O:
                    return ofWord(machine, machine.owners);
                case NAME_I:
                    return kind == IN && machine.figures[F_INPUTS] > 0 ? machine.inputTags[0] : 0;
                case NAME_N:
                    return n;
                case NAME_CODE:
                    return codeTag;
                case NAME_BEFORE:
                    return machine.before;
                case NAME_CLEAR:
                    return machine.clear;
                case NAME_FRESH:
                    return machine.figures[F_MAKES] + 2;
                default:
                    return 0;
            }
        }

        private boolean reachesWord() {
            return kind == LOAD || kind == STORE;
        }

        private int ofWord(Machine machine, int[] tags) {
            if (!reachesWord()) {
                return 0;
            }
            return machine.hasWord(reached) && reached < tags.length ? tags[reached] : NO_SUCH_WORD;
        }

        /** What keeps an instruction from being done that its rule allows. */
        private int hindrance(Machine machine) {
            if (reachesWord() && !machine.hasWord(reached)) {
                return WRONG;
            }
            if (kind == IN && machine.figures[F_INPUTS] == 0) {
                return WAITS;
            }
            if (kind == MAKE) {
                made = machine.freePlace(machine.registers[b]);
                return made == NONE ? NO_ROOM : GOES_ON;
            }
            return GOES_ON;
        }

        private void settle(Machine machine, int told) {
            int[] record = worker.record;
            if ((told & TELLS_TAG) != 0) {
                tag = record[R_TAG];
            } else {
                tag = kind == MARK ? machine.registerTags[a] : 0;
            }
            next = (told & TELLS_NEXT) != 0 ? record[R_NEXT] : machine.registerTags[PC];
            if ((told & TELLS_OWNER) != 0) {
                owner = record[R_OWNER];
            } else {
                owner = kind == STORE && machine.hasWord(reached) ? machine.owners[reached] : 0;
            }
        }

        private void perform(Machine machine) {
            int[] registers = machine.registers;
            int following = place + 1;
            switch (kind) {
                case HALT:
                    following = place;
                    break;
                case STORE:
                    machine.setWord(reached, registers[a], tag, owner);
                    break;
                case JUMP:
                    following = n;
                    break;
                case BRANCH:
                    following = registers[a] != 0 ? n : following;
                    break;
                case GO:
                    following = registers[b];
                    break;
                case LINK:
                    machine.setRegister(a, following, tag);
                    following = n;
                    break;
                case OUT:
                    machine.putOut(registers[a]);
                    break;
                case IN:
                    machine.setRegister(a, machine.takeInput(), tag);
                    break;
                case MAKE:
                    machine.handOut(made, registers[b], owner);
                    machine.figures[F_MAKES]++;
                    machine.setRegister(a, made, tag);
                    break;
                case DROP:
                    machine.free(owner);
                    break;
                default:
                    machine.setRegister(a, result(machine), tag);
                    break;
            }
            machine.setRegister(PC, following, next);
        }

        /** What a becomes by a kind that does nothing else. */
        private int result(Machine machine) {
            int left = machine.registers[b];
            int right = machine.registers[c];
            switch (kind) {
                case CONSTANT:
                    return n;
                case MOVE:
                    return left;
                case ADD:
                    return left + right;
                case SUBTRACT:
                    return left - right;
                case MULTIPLY:
                    return left * right;
                case AND:
                    return left & right;
                case OR:
                    return left | right;
                case XOR:
                    return left ^ right;
                case BELOW:
                    return left < right ? 1 : 0;
                case LIKE:
                    return left == right ? 1 : 0;
                case LOAD:
                    return machine.hasWord(reached) ? machine.words[reached] : 0;
                default:
                    return machine.registers[a];
            }
        }
    }

    /** Compares two policies' rules of a kind, case by case, and has the case that was found latest. */
    private static final class Comparer {
        boolean hasFound;
        final int[] found = new int[NAMES];
        private final Worker ours = new Worker();
        private final Worker theirs = new Worker();
        private int varied;
        private int most;
        private int cases;

        static int variedNames(Policy one, Policy two, int kind) {
            if (!one.hasRule(kind) || !two.hasRule(kind)) {
                return 0;
            }
            int names = (one.named[kind] | two.named[kind]) & ALL_NAMES;
            int justOne = one.told[kind] ^ two.told[kind];
            if ((justOne & TELLS_NEXT) != 0) {
                names |= 1 << NAME_PC;
            }
            if ((justOne & TELLS_OWNER) != 0) {
                names |= 1 << NAME_O;
            }
            return names;
        }

        /** How many cases there are; some number above MOST_CASES, if there are more. */
        static int casesOf(int names, int most) {
            int count = 1;
            for (int k = 0; k < NAMES && count <= MOST_CASES; k++) {
                count *= ((names >> k) & 1) == 0 ? 1 : most + 1;
            }
            return count;
        }

        void startCases(int variedNames, int mostValue, int caseCount) {
            varied = variedNames;
            most = mostValue;
            cases = caseCount;
            Arrays.fill(found, 0);
        }

        int firstUnlikeCase(Policy one, Policy two, int kind, Machine machine) {
            hasFound = false;
            for (int k = 0; k < cases; k++) {
                System.arraycopy(found, 0, ours.record, R_NAMES, NAMES);
                System.arraycopy(found, 0, theirs.record, R_NAMES, NAMES);
                ours.workOut(one, kind, machine);
                theirs.workOut(two, kind, machine);
                if (answerUnlike(one.told[kind], two.told[kind])) {
                    hasFound = true;
                    return k;
                }
                goToNextCase();
            }
            return NONE;
        }

        private void goToNextCase() {
            for (int k = NAMES - 1; k >= 0; k--) {
                if (((varied >> k) & 1) != 0) {
                    if (found[k] < most) {
                        found[k]++;
                        return;
                    }
                    found[k] = 0;
                }
            }
        }

        private boolean answerUnlike(int oursTold, int theirsTold) {
            if (ours.record[R_ENDED] != theirs.record[R_ENDED]) {
                return true;
            }
            if (ours.record[R_ENDED] != GOES_ON) {
                return false;
            }
            fillUntold(ours.record, oursTold);
            fillUntold(theirs.record, theirsTold);
            for (int cell = R_TAG; cell <= R_OWNER; cell++) {
                if (ours.record[cell] != theirs.record[cell]) {
                    return true;
                }
            }
            return false;
        }

        private static void fillUntold(int[] record, int told) {
            if (record.length < RECORD) {
                return;
            }
            if ((told & TELLS_NEXT) == 0) {
                record[R_NEXT] = record[R_NAMES + NAME_PC];
            }
            if ((told & TELLS_OWNER) == 0) {
                record[R_OWNER] = record[R_NAMES + NAME_O];
            }
        }
    }

    private static void copyRow(int[] from, int[] to) {
        System.arraycopy(from, 0, to, 0, Math.min(from.length, to.length));
    }
}
