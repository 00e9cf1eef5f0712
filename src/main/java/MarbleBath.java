/**
 * A marbler's tray in whole numbers. Strokes are kept as maps and asked
 * backward, so nothing is ever painted: a colour is looked up each time.
 */
public final class MarbleBath {
    public static final int NONE = -1;

    /** The document's -2: broken, lost, no such cell, none found. */
    private static final int UNMET = -2;
    private static final int NO_SHIFT = -100;
    private static final int FED_BYTES = 20;

    private final Tape tape = new Tape();
    private final Log log = new Log();
    private final Rows tried = new Rows();
    private final Bath bath = new Bath(tried);
    private final Sheet laid = new Sheet();
    private final Sheet otherLaid = new Sheet();
    private final int[] numbers = new int[Rows.WIDTH];
    private Program patterns = new Program();
    /** The next text is read into this one, so that a faulty text changes nothing. */
    private Program spare = new Program();
    private final Reader reader = new Reader(spare);
    private final Doer doer = new Doer(patterns, tried);
    private final Maker maker = new Maker(doer, tried, bath, laid);
    private int faultPlace = NONE;
    private int brokeWhy;
    private int brokePlace = NONE;

    public MarbleBath() {
    }

    public int feed(int a, int b, int c, int d, int e) {
        if (!tape.hasRoom(FED_BYTES)) {
            return NONE;
        }
        tape.addWord(a);
        tape.addWord(b);
        tape.addWord(c);
        tape.addWord(d);
        tape.addWord(e);
        return tape.size();
    }

    public int back(int n) {
        return tape.cut(n) ? tape.size() : NONE;
    }

    public int read() {
        int fault = reader.readInto(spare, tape);
        faultPlace = fault == 0 ? NONE : reader.placeOfFault();
        if (fault == 0) {
            Program older = patterns;
            patterns = spare;
            spare = older;
        }
        tape.cut(tape.size());
        return fault;
    }

    public int place() {
        return faultPlace;
    }

    public int drop(int x, int y, int r, int c) {
        return log.tell(Rows.DROP, put(x, y, r, c, 0, 0));
    }

    public int line(int axis, int at, int by, int half) {
        return log.tell(Rows.LINE, put(axis, at, by, half, 0, 0));
    }

    public int comb(int axis, int first, int every, int teeth, int by, int half) {
        return log.tell(Rows.COMB, put(axis, first, every, teeth, by, half));
    }

    public int wave(int axis, int period, int by) {
        return log.tell(Rows.WAVE, put(axis, period, by, 0, 0, 0));
    }

    public int lay(int shake) {
        return log.tell(Rows.LAY, put(shake, 0, 0, 0, 0, 0));
    }

    public int strike(int fact) {
        return log.tellStrike(put(fact, 0, 0, 0, 0, 0));
    }

    public int run(int pattern, int a, int b) {
        if (!patterns.has(pattern)) {
            return NONE;
        }
        tried.clear(log.roomLeft());
        int why = doer.perform(patterns, pattern, a, b, tried);
        if (why != 0) {
            brokeWhy = why;
            brokePlace = doer.deedPlace();
            return UNMET;
        }
        log.tellAll(tried);
        return tried.size();
    }

    public int broke() {
        return brokeWhy;
    }

    public int where() {
        return brokePlace;
    }

    public int parameters(int pattern) {
        return patterns.has(pattern) ? patterns.needs(pattern) : NONE;
    }

    public int kind(int fact) {
        return log.has(fact) ? log.facts().kindOf(fact) : NONE;
    }

    public int number(int fact, int i) {
        boolean told = log.has(fact) && i >= 0 && i < Rows.numbersOf(log.facts().kindOf(fact));
        return told ? log.facts().numberOf(fact, i) : NONE;
    }

    public int struck(int fact, int n) {
        if (!log.knows(n) || fact < 0 || fact >= n) {
            return NONE;
        }
        return log.isOut(fact, n) ? 1 : 0;
    }

    public int colour(int x, int y, int n) {
        return floatBath(x, y, n) ? bath.colourOf(x, y) : NONE;
    }

    public int from(int x, int y, int n, int what) {
        if (what < 0 || what > 2 || !floatBath(x, y, n)) {
            return NONE;
        }
        int source = bath.goBack(x, y);
        if (what == 0) {
            return source >= 0 ? source : NONE;
        }
        if (source == Bath.BEYOND) {
            return NONE;
        }
        return what == 1 ? bath.reachedX() : bath.reachedY();
    }

    public int to(int x, int y, int n, int what) {
        if (what < 0 || what > 1 || !floatBath(x, y, n) || !bath.goForth(x, y)) {
            return NONE;
        }
        return what == 0 ? bath.reachedX() : bath.reachedY();
    }

    public int home(int x, int y, int n) {
        if (!floatBath(x, y, n)) {
            return NONE;
        }
        if (!bath.goForth(x, y) || bath.goBack(bath.reachedX(), bath.reachedY()) != Bath.OF_NONE) {
            return UNMET;
        }
        return Math.abs(bath.reachedX() - x) + Math.abs(bath.reachedY() - y);
    }

    public int sheets(int n) {
        return log.knows(n) ? log.laysKnown(n) : NONE;
    }

    public int cell(int sheet, int i, int j, int n) {
        return Sheet.isCell(i, j) && takeSheet(laid, sheet, n) ? laid.colourOf(i, j) : UNMET;
    }

    public int area(int sheet, int colour, int n) {
        boolean some = colour >= NONE && colour <= Rows.COLOUR_MOST;
        return some && takeSheet(laid, sheet, n) ? laid.areaOf(colour) : NONE;
    }

    public int pieces(int sheet, int n) {
        return takeSheet(laid, sheet, n) ? laid.countPieces() : NONE;
    }

    public int largest(int sheet, int n) {
        return takeSheet(laid, sheet, n) ? laid.largestPiece() : NONE;
    }

    public int edge(int one, int other, int shift, int n) {
        boolean some = shift > -Sheet.SIDE && shift < Sheet.SIDE;
        return some && takeBoth(one, other, n) ? laid.edgesUnlike(otherLaid, shift) : NONE;
    }

    public int match(int one, int other, int n) {
        return takeBoth(one, other, n) ? laid.bestShift(otherLaid) : NO_SHIFT;
    }

    public int unlike(int one, int other, int n) {
        return takeBoth(one, other, n) ? laid.cellsUnlike(otherLaid) : NONE;
    }

    public int made(int sheet, int n) {
        if (!takeSheet(laid, sheet, n)) {
            return NONE;
        }
        return maker.seekBest(patterns, sheet) ? maker.bestMade() : UNMET;
    }

    public int off(int sheet, int n) {
        if (!takeSheet(laid, sheet, n)) {
            return NONE;
        }
        return maker.seekBest(patterns, sheet) ? maker.bestOff() : UNMET;
    }

    public int row(int sheet, int d, int n) {
        if (d < 0 || !takeSheet(laid, sheet, n)) {
            return NONE;
        }
        return maker.seekRow(patterns, sheet, d) ? maker.foundLength() : UNMET;
    }

    public int rowed(int i) {
        return i >= 0 && i < maker.foundLength() ? maker.foundAt(i) : NONE;
    }

    public int count(int what) {
        switch (what) {
            case 0:
                return patterns.size();
            case 1:
                return log.size();
            case 2:
                log.pickStrokes(bath, log.size(), log.laysKnown(log.size()));
                return bath.size();
            case 3:
                return tape.size();
            default:
                return NONE;
        }
    }

    private int[] put(int a, int b, int c, int d, int e, int f) {
        numbers[0] = a;
        numbers[1] = b;
        numbers[2] = c;
        numbers[3] = d;
        numbers[4] = e;
        numbers[5] = f;
        return numbers;
    }

    /** Makes bath what floats as known by n; false if there is no such point or n. */
    private boolean floatBath(int x, int y, int n) {
        if (!Bath.isPoint(x, y) || !log.knows(n)) {
            return false;
        }
        log.pickStrokes(bath, n, log.laysKnown(n));
        return true;
    }

    /** Puts what was laid into a sheet; false if there is no such one. */
    private boolean takeSheet(Sheet into, int number, int n) {
        if (!log.knows(n) || number < 0 || number >= log.laysKnown(n)) {
            return false;
        }
        if (!into.holds(number, n)) {
            int lay = log.pickStrokes(bath, n, number);
            into.fill(bath, log.facts().numberOf(lay, 0));
            into.keepAs(number, n);
        }
        return true;
    }

    private boolean takeBoth(int one, int other, int n) {
        return takeSheet(laid, one, n) && takeSheet(otherLaid, other, n);
    }

    /** The bytes that were fed and not yet read. */
    private static final class Tape {
        private static final int MOST = 2000;
        private final byte[] bytes = new byte[MOST];
        private int length;

        int size() {
            return length;
        }

        boolean hasRoom(int more) {
            return more <= MOST - length;
        }

        void addWord(int word) {
            for (int shift = 24; shift >= 0; shift -= 8) {
                addByte(word >>> shift);
            }
        }

        private void addByte(int value) {
            if (length >= 0 && length < MOST) {
                bytes[length] = (byte) value;
                length++;
            }
        }

        boolean cut(int n) {
            if (n < 0 || n > length) {
                return false;
            }
            length -= n;
            return true;
        }

        /** 0 .. 255; NONE behind the end. */
        int byteAt(int i) {
            return i >= 0 && i < length && i < MOST ? bytes[i] & 255 : NONE;
        }
    }

    /** Cuts a tape into tokens. A sign's kind is its character, more by PAIRED with '=' behind it. */
    private static final class Scanner {
        static final int BAD = -1;
        static final int END = 0;
        static final int NAME = 1;
        static final int INT = 2;
        static final int PATTERN = 3;
        static final int CLOSE = 4;
        static final int DROP = 5;
        static final int WAVE = 8;
        static final int FOR = 9;
        static final int TO = 10;
        static final int IF = 11;
        static final int ELSE = 12;
        static final int DO = 13;
        static final int X = 14;
        static final int Y = 15;
        static final int OR = 16;
        static final int AND = 17;
        private static final int PAIRED = 256;
        static final int EQUAL = '=' + PAIRED;
        static final int UNEQUAL = '!' + PAIRED;
        static final int BELOW = '<';
        static final int AT_MOST = '<' + PAIRED;
        static final int TOKENS_MOST = 500;
        /** One token too many is looked at, too: it may be a fault of syntax. */
        private static final int KEPT_MOST = TOKENS_MOST + 1;
        /** In the order of their kinds from PATTERN on, each with a blank behind it. */
        private static final String WORDS = "pattern end drop line comb wave for to if else do x y or and ";
        private static final int WORD_COUNT = 15;
        private static final String SIGNS = ";,+-*/%=<()";
        private static final int NAME_MOST = 8;
        private static final int INT_MOST = 4;

        private final long[] words = new long[WORD_COUNT];
        private final int[] kinds = new int[KEPT_MOST];
        private final int[] starts = new int[KEPT_MOST];
        /** What a token says: an int's number; a name's bytes, of which eight fit one long and none is 0. */
        private final long[] says = new long[KEPT_MOST];
        private int at;
        private long said;

        Scanner() {
            int word = 0;
            long packed = 0;
            for (int i = 0; i < WORDS.length(); i++) {
                if (WORDS.charAt(i) != ' ') {
                    packed = packed << 8 | WORDS.charAt(i);
                } else if (word < words.length) {
                    words[word] = packed;
                    word++;
                    packed = 0;
                }
            }
        }

        /** Behind the end, and behind what is no token, nothing is cut: no text goes on there. */
        void scan(Tape tape) {
            at = 0;
            int last = NAME;
            for (int i = 0; i < KEPT_MOST; i++) {
                if (last != END && last != BAD) {
                    skipBlanks(tape);
                    starts[i] = at;
                    last = scanToken(tape);
                }
                kinds[i] = last;
                says[i] = said;
            }
        }

        int kindAt(int token) {
            return token >= 0 && token < KEPT_MOST ? kinds[token] : BAD;
        }

        int startAt(int token) {
            return token >= 0 && token < KEPT_MOST ? starts[token] : 0;
        }

        long saysAt(int token) {
            return token >= 0 && token < KEPT_MOST ? says[token] : 0;
        }

        private void skipBlanks(Tape tape) {
            for (int i = 0; i <= Tape.MOST && isBlank(tape.byteAt(at)); i++) {
                at++;
            }
        }

        private int scanToken(Tape tape) {
            int c = tape.byteAt(at);
            said = 0;
            if (c < 0) {
                return END;
            }
            if (isLetter(c)) {
                return scanName(tape);
            }
            return isDigit(c) ? scanInt(tape) : scanSign(tape, c);
        }

        private int scanName(Tape tape) {
            int start = at;
            for (int i = 0; i <= Tape.MOST && (isLetter(tape.byteAt(at)) || isDigit(tape.byteAt(at))); i++) {
                said = said << 8 | tape.byteAt(at);
                at++;
            }
            return at - start > NAME_MOST ? BAD : wordOrName(said);
        }

        private int wordOrName(long packed) {
            for (int i = 0; i < words.length; i++) {
                if (words[i] == packed) {
                    return PATTERN + i;
                }
            }
            return NAME;
        }

        private int scanInt(Tape tape) {
            int start = at;
            for (int i = 0; i <= Tape.MOST && isDigit(tape.byteAt(at)); i++) {
                said = said * 10 + tape.byteAt(at) - '0';
                at++;
            }
            return at - start > INT_MOST ? BAD : INT;
        }

        private int scanSign(Tape tape, int c) {
            at++;
            if (tape.byteAt(at) == '=' && (c == '=' || c == '!' || c == '<')) {
                at++;
                return c + PAIRED;
            }
            return SIGNS.indexOf((char) c) >= 0 ? c : BAD;
        }

        private static boolean isBlank(int c) {
            return c == 9 || c == 10 || c == 13 || c == 32;
        }

        private static boolean isLetter(int c) {
            return c >= 'a' && c <= 'z';
        }

        private static boolean isDigit(int c) {
            return c >= '0' && c <= '9';
        }
    }

    /** Patterns as words of code for a Doer: an operation, then what it works with. */
    private static final class Program {
        static final int PATTERNS_MOST = 8;
        /** 500 tokens make some two words each; this is far more. */
        private static final int CODE_MOST = 2000;
        private final int[] code = new int[CODE_MOST];
        private final int[] starts = new int[PATTERNS_MOST];
        private final int[] needs = new int[PATTERNS_MOST];
        private int length;
        private int closed;

        void clear() {
            length = 0;
            closed = 0;
        }

        /** How many patterns are told wholly. */
        int size() {
            return closed;
        }

        boolean has(int pattern) {
            return pattern >= 0 && pattern < closed && pattern < PATTERNS_MOST;
        }

        int needs(int pattern) {
            return has(pattern) ? needs[pattern] : 0;
        }

        int startOf(int pattern) {
            return has(pattern) ? starts[pattern] : 0;
        }

        void open(int parameters) {
            if (closed >= 0 && closed < PATTERNS_MOST) {
                starts[closed] = length;
                needs[closed] = parameters;
            }
        }

        void close() {
            if (closed < PATTERNS_MOST) {
                closed++;
            }
        }

        int here() {
            return length;
        }

        void add(int word) {
            if (length >= 0 && length < CODE_MOST) {
                code[length] = word;
                length++;
            }
        }

        void add(int operation, int with) {
            add(operation);
            add(with);
        }

        void add(int operation, int with, int and) {
            add(operation, with);
            add(and);
        }

        /** Sets the word at a place to where the code goes on now. */
        void aimHere(int at) {
            if (at >= 0 && at < CODE_MOST) {
                code[at] = length;
            }
        }

        /** The word at a place; outside of the code an operation that ends all. */
        int wordAt(int at) {
            return at >= 0 && at < length && at < CODE_MOST ? code[at] : Doer.DONE;
        }
    }

    /** Reads a text into a Program and finds its first fault. */
    private static final class Reader {
        private static final int SYNTAX = 1;
        private static final int ROOM = 2;
        private static final int TWICE = 3;
        private static final int UNKNOWN = 4;
        private static final int WRONG = 5;
        private static final int NESTED_MOST = 6;
        /** No loop over tokens can turn more often. */
        private static final int TURNS_MOST = Scanner.TOKENS_MOST + 1;

        private final Scanner scanner = new Scanner();
        private final long[] patternNames = new long[Program.PATTERNS_MOST];
        /** Names of the parameters, then of the fors around, outermost first. */
        private final long[] reach = new long[Doer.NAMES_MOST];
        private int reached;
        private int token;
        /** The kind of the token that comes next; BAD once there is a fault, so that all loops end. */
        private int kind;
        private int start;
        private int fault;
        private int faultPlace;
        private int lateFault;
        private int latePlace;
        private Program into;

        Reader(Program into) {
            this.into = into;
        }

        /** 0, or the number of the fault. */
        int readInto(Program program, Tape tape) {
            into = program;
            into.clear();
            fault = 0;
            lateFault = 0;
            scanner.scan(tape);
            token = 0;
            kind = scanner.kindAt(0);
            start = scanner.startAt(0);
            for (int i = 0; i < TURNS_MOST && kind == Scanner.PATTERN; i++) {
                readPattern();
            }
            if (kind != Scanner.END) {
                fail(SYNTAX);
            }
            if (fault == 0) {
                fault = lateFault;
                faultPlace = latePlace;
            }
            return fault;
        }

        int placeOfFault() {
            return faultPlace;
        }

        /** Syntax and room: the first one met is the first by its place, for tokens are taken in order. */
        private void fail(int number) {
            if (fault == 0) {
                fault = number;
                faultPlace = start;
            }
            kind = Scanner.BAD;
        }

        /** The other faults count only if all of the text is well formed, so they are kept till then. */
        private void note(int number, int place) {
            if (lateFault == 0 || place < latePlace || place == latePlace && number < lateFault) {
                lateFault = number;
                latePlace = place;
            }
        }

        private void take(int wanted) {
            if (kind != wanted || fault != 0) {
                fail(SYNTAX);
            } else if (token >= Scanner.TOKENS_MOST) {
                fail(ROOM);
            } else {
                token++;
                kind = scanner.kindAt(token);
                start = scanner.startAt(token);
            }
        }

        private void readPattern() {
            if (into.size() >= Program.PATTERNS_MOST) {
                fail(ROOM);
                return;
            }
            take(Scanner.PATTERN);
            namePattern(scanner.saysAt(token));
            take(Scanner.NAME);
            reached = 0;
            if (kind == '(') {
                take('(');
                readReach();
                if (kind == ',') {
                    take(',');
                    readReach();
                }
                take(')');
            }
            into.open(reached);
            readDeeds(0);
            take(Scanner.CLOSE);
            into.add(Doer.DONE);
            into.close();
        }

        private void namePattern(long name) {
            if (patternOf(name) >= 0) {
                note(TWICE, start);
            }
            int pattern = into.size();
            if (pattern >= 0 && pattern < patternNames.length) {
                patternNames[pattern] = name;
            }
        }

        /** NONE if no pattern of that name is told wholly. */
        private int patternOf(long name) {
            for (int i = 0; i < into.size() && i < patternNames.length; i++) {
                if (patternNames[i] == name) {
                    return i;
                }
            }
            return NONE;
        }

        /** A parameter's name, in reach from here on. */
        private void readReach() {
            long name = scanner.saysAt(token);
            noteIfReached(name);
            take(Scanner.NAME);
            bringInReach(name);
        }

        private void noteIfReached(long name) {
            if (reachOf(name) >= 0) {
                note(TWICE, start);
            }
        }

        private void bringInReach(long name) {
            if (reached >= 0 && reached < reach.length) {
                reach[reached] = name;
            }
            reached++;
        }

        /** Which of the names in reach it is; NONE if it is none. */
        private int reachOf(long name) {
            for (int i = 0; i < reached && i < reach.length; i++) {
                if (reach[i] == name) {
                    return i;
                }
            }
            return NONE;
        }

        private void readDeeds(int depth) {
            for (int i = 0; i < TURNS_MOST && startsDeed(kind); i++) {
                readDeed(depth);
            }
        }

        private static boolean startsDeed(int kind) {
            boolean stroke = kind >= Scanner.DROP && kind <= Scanner.WAVE;
            return stroke || kind == Scanner.FOR || kind == Scanner.IF || kind == Scanner.DO;
        }

        private void readDeed(int depth) {
            int word = kind;
            int place = start;
            if (depth >= NESTED_MOST && (word == Scanner.FOR || word == Scanner.IF)) {
                fail(ROOM);
                return;
            }
            into.add(Doer.DEED, place);
            take(word);
            if (word == Scanner.FOR) {
                readFor(place, depth);
            } else if (word == Scanner.IF) {
                readIf(depth);
            } else if (word == Scanner.DO) {
                readDo();
            } else {
                readStroke(word - Scanner.DROP);
            }
        }

        private void readStroke(int stroke) {
            int first = 0;
            if (stroke != Rows.DROP) {
                into.add(Doer.PUSH, kind == Scanner.Y ? 1 : 0);
                take(kind == Scanner.Y ? Scanner.Y : Scanner.X);
                first = 1;
            }
            for (int i = first; i < Rows.numbersOf(stroke); i++) {
                if (i > first) {
                    take(',');
                }
                readSum(0);
            }
            take(';');
            into.add(Doer.STROKE, stroke);
        }

        private void readFor(int place, int depth) {
            long name = scanner.saysAt(token);
            noteIfReached(name);
            take(Scanner.NAME);
            take('=');
            readSum(0);
            take(Scanner.TO);
            readSum(0);
            int loop = reached;
            bringInReach(name);
            into.add(Doer.FOR, loop, 0);
            int leave = into.here() - 1;
            int turn = into.here();
            into.add(Doer.TURN, place);
            readDeeds(depth + 1);
            take(Scanner.CLOSE);
            into.add(Doer.NEXT, loop, turn);
            into.aimHere(leave);
            reached = loop;
        }

        private void readIf(int depth) {
            readCondition();
            into.add(Doer.UNLESS, 0);
            int skip = into.here() - 1;
            readDeeds(depth + 1);
            if (kind == Scanner.ELSE) {
                take(Scanner.ELSE);
                into.add(Doer.JUMP, 0);
                int leave = into.here() - 1;
                into.aimHere(skip);
                skip = leave;
                readDeeds(depth + 1);
            }
            take(Scanner.CLOSE);
            into.aimHere(skip);
        }

        private void readDo() {
            int place = start;
            int pattern = patternOf(scanner.saysAt(token));
            take(Scanner.NAME);
            int given = 0;
            if (kind == '(') {
                take('(');
                readSum(0);
                given = 1;
                if (kind == ',') {
                    take(',');
                    readSum(0);
                    given = 2;
                }
                take(')');
            }
            take(';');
            if (pattern < 0) {
                note(UNKNOWN, place);
            } else if (given != into.needs(pattern)) {
                note(WRONG, place);
            }
            into.add(Doer.DO, pattern);
        }

        /** An and jumps over one relation, where the next and jumps on; an or jumps over all up to the next or. */
        private void readCondition() {
            int overRelation = NONE;
            int overAll = NONE;
            boolean more = true;
            for (int i = 0; i < TURNS_MOST && more; i++) {
                readSum(0);
                int operation = relationOf(kind);
                if (operation == NONE) {
                    fail(SYNTAX);
                    return;
                }
                take(kind);
                readSum(0);
                into.add(operation);
                into.aimHere(overRelation);
                overRelation = NONE;
                if (kind == Scanner.AND) {
                    take(Scanner.AND);
                    into.add(Doer.AND, 0);
                    overRelation = into.here() - 1;
                    continue;
                }
                into.aimHere(overAll);
                more = kind == Scanner.OR;
                if (more) {
                    take(Scanner.OR);
                    into.add(Doer.OR, 0);
                    overAll = into.here() - 1;
                }
            }
        }

        private static int relationOf(int sign) {
            switch (sign) {
                case Scanner.EQUAL:
                    return Doer.IS_EQUAL;
                case Scanner.UNEQUAL:
                    return Doer.IS_UNEQUAL;
                case Scanner.BELOW:
                    return Doer.IS_BELOW;
                case Scanner.AT_MOST:
                    return Doer.IS_AT_MOST;
                default:
                    return NONE;
            }
        }

        private void readSum(int depth) {
            readProduct(depth);
            for (int i = 0; i < TURNS_MOST && (kind == '+' || kind == '-'); i++) {
                int operation = kind == '+' ? Doer.PLUS : Doer.MINUS;
                take(kind);
                readProduct(depth);
                into.add(operation);
            }
        }

        private void readProduct(int depth) {
            readUnit(depth);
            for (int i = 0; i < TURNS_MOST && (kind == '*' || kind == '/' || kind == '%'); i++) {
                int operation = kind == '*' ? Doer.TIMES : kind == '/' ? Doer.OVER : Doer.REST;
                take(kind);
                readUnit(depth);
                into.add(operation);
            }
        }

        /** depth: how many ( and - ahead of a unit are around this one. */
        private void readUnit(int depth) {
            if (kind == Scanner.INT) {
                into.add(Doer.PUSH, (int) scanner.saysAt(token));
                take(Scanner.INT);
            } else if (kind == Scanner.NAME) {
                int name = reachOf(scanner.saysAt(token));
                if (name < 0) {
                    note(UNKNOWN, start);
                }
                into.add(Doer.LOAD, name);
                take(Scanner.NAME);
            } else if (kind != '-' && kind != '(') {
                fail(SYNTAX);
            } else if (depth >= NESTED_MOST) {
                fail(ROOM);
            } else if (kind == '-') {
                take('-');
                readUnit(depth + 1);
                into.add(Doer.NEGATE);
            } else {
                take('(');
                readSum(depth + 1);
                take(')');
            }
        }
    }

    /** Does a pattern of a Program: its strokes come into Rows, until it ends or breaks. */
    private static final class Doer {
        static final int DONE = 0;
        static final int DEED = 1;
        static final int PUSH = 2;
        static final int LOAD = 3;
        static final int NEGATE = 4;
        static final int PLUS = 5;
        static final int MINUS = 6;
        static final int TIMES = 7;
        static final int OVER = 8;
        static final int REST = 9;
        static final int IS_EQUAL = 10;
        static final int IS_UNEQUAL = 11;
        static final int IS_BELOW = 12;
        static final int IS_AT_MOST = 13;
        static final int AND = 14;
        static final int OR = 15;
        static final int UNLESS = 16;
        static final int JUMP = 17;
        static final int FOR = 18;
        static final int TURN = 19;
        static final int NEXT = 20;
        static final int STROKE = 21;
        static final int DO = 22;
        /** In reach at once: two parameters, six fors. */
        static final int NAMES_MOST = 8;
        static final int DEEDS_MOST = 2000;

        private static final int TOO_LONG = 1;
        private static final int UNFIT = 2;
        private static final int BY_ZERO = 3;
        private static final int NO_ROOM = 4;
        private static final int FRAMES_MOST = Program.PATTERNS_MOST;
        private static final int STACK_MOST = 64;
        /** 2,000 deeds of 500 tokens are some two million; this ends the loop beyond all doubt. */
        private static final int STEPS_MOST = 10000000;

        private final int[] stack = new int[STACK_MOST];
        /** For each frame what its names stand for, and for a for's name also the last number. */
        private final int[] values = new int[NAMES_MOST * FRAMES_MOST];
        private final int[] lasts = new int[NAMES_MOST * FRAMES_MOST];
        private final int[] returns = new int[FRAMES_MOST];
        private final int[] numbers = new int[Rows.WIDTH];
        private Program program;
        private Rows strokes;
        private int at;
        private int top;
        private int depth;
        private int deeds;
        private int place;
        private int why;
        private boolean ended;

        Doer(Program program, Rows strokes) {
            this.program = program;
            this.strokes = strokes;
        }

        /** 0, or why it breaks. */
        int perform(Program told, int pattern, int a, int b, Rows into) {
            program = told;
            strokes = into;
            at = told.startOf(pattern);
            top = 0;
            depth = 0;
            deeds = 0;
            why = 0;
            ended = !told.has(pattern);
            setValue(0, a);
            setValue(1, b);
            for (int i = 0; i < STEPS_MOST && !ended; i++) {
                step();
            }
            return why;
        }

        /** The byte of the deed that was done last. */
        int deedPlace() {
            return place;
        }

        int deedsDone() {
            return deeds;
        }

        private void step() {
            int operation = nextWord();
            switch (operation) {
                case DEED:
                case TURN:
                    startDeed(nextWord());
                    break;
                case PUSH:
                    push(nextWord());
                    break;
                case LOAD:
                    push(valueOf(nextWord()));
                    break;
                case NEGATE:
                    push(-pop());
                    break;
                case STROKE:
                    stroke(nextWord());
                    break;
                case DO:
                    enter(nextWord());
                    break;
                case DONE:
                    leave();
                    break;
                default:
                    if (operation >= PLUS && operation <= IS_AT_MOST) {
                        int right = pop();
                        combine(operation, pop(), right);
                    } else {
                        turn(operation);
                    }
            }
        }

        private void combine(int operation, int left, int right) {
            switch (operation) {
                case PLUS:
                    push(left + right);
                    break;
                case MINUS:
                    push(left - right);
                    break;
                case TIMES:
                    push(left * right);
                    break;
                case OVER:
                case REST:
                    divide(operation, left, right);
                    break;
                case IS_EQUAL:
                    push(left == right ? 1 : 0);
                    break;
                case IS_UNEQUAL:
                    push(left != right ? 1 : 0);
                    break;
                case IS_BELOW:
                    push(left < right ? 1 : 0);
                    break;
                default:
                    push(left <= right ? 1 : 0);
            }
        }

        private void divide(int operation, int left, int right) {
            if (right == 0) {
                breakOff(BY_ZERO);
                return;
            }
            push(operation == OVER ? left / right : left % right);
        }

        /** The operations after which the code may go on elsewhere. */
        private void turn(int operation) {
            int with = nextWord();
            switch (operation) {
                case AND:
                case OR:
                    settle(operation == OR, with);
                    break;
                case UNLESS:
                    if (pop() == 0) {
                        at = with;
                    }
                    break;
                case JUMP:
                    at = with;
                    break;
                case FOR:
                    startLoop(with, nextWord());
                    break;
                case NEXT:
                    nextTurn(with, nextWord());
                    break;
                default:
                    breakOff(TOO_LONG);
            }
        }

        /** Goes on behind the next part if the value so far settles the whole; else drops it. */
        private void settle(boolean by, int target) {
            int value = pop();
            if ((value != 0) == by) {
                push(value);
                at = target;
            }
        }

        private void startLoop(int name, int behind) {
            int last = pop();
            int first = pop();
            if (last < first) {
                at = behind;
                return;
            }
            setValue(name, first);
            int i = depth * NAMES_MOST + name;
            if (i >= 0 && i < lasts.length) {
                lasts[i] = last;
            }
        }

        /** The last number may be the greatest int there is, so it is looked at before one is added. */
        private void nextTurn(int name, int target) {
            int i = depth * NAMES_MOST + name;
            if (i >= 0 && i < values.length && i < lasts.length && values[i] < lasts[i]) {
                values[i]++;
                at = target;
            }
        }

        private void startDeed(int first) {
            place = first;
            deeds++;
            if (deeds > DEEDS_MOST) {
                breakOff(TOO_LONG);
            }
        }

        private void stroke(int kind) {
            for (int i = Math.min(Rows.numbersOf(kind), numbers.length) - 1; i >= 0; i--) {
                numbers[i] = pop();
            }
            if (!Rows.fits(kind, numbers)) {
                breakOff(UNFIT);
            } else if (strokes.isFull()) {
                breakOff(NO_ROOM);
            } else {
                strokes.add(kind, numbers);
            }
        }

        /** A pattern does only such as are told wholly ahead, so there are at most eight frames. */
        private void enter(int pattern) {
            int needs = program.needs(pattern);
            int b = needs > 1 ? pop() : 0;
            int a = needs > 0 ? pop() : 0;
            if (!program.has(pattern) || depth < 0 || depth >= returns.length - 1) {
                breakOff(TOO_LONG);
                return;
            }
            returns[depth] = at;
            depth++;
            setValue(0, a);
            setValue(1, b);
            at = program.startOf(pattern);
        }

        private void leave() {
            depth--;
            if (depth < 0 || depth >= returns.length) {
                ended = true;
                return;
            }
            at = returns[depth];
        }

        private void breakOff(int number) {
            why = number;
            ended = true;
        }

        private int nextWord() {
            int word = program.wordAt(at);
            at++;
            return word;
        }

        private void push(int value) {
            if (top >= 0 && top < STACK_MOST) {
                stack[top] = value;
                top++;
            }
        }

        private int pop() {
            if (top <= 0 || top > STACK_MOST) {
                return 0;
            }
            top--;
            return stack[top];
        }

        private int valueOf(int name) {
            int i = depth * NAMES_MOST + name;
            return i >= 0 && i < values.length ? values[i] : 0;
        }

        private void setValue(int name, int value) {
            int i = depth * NAMES_MOST + name;
            if (i >= 0 && i < values.length) {
                values[i] = value;
            }
        }
    }

    /** Facts or strokes one behind the other: a kind and its numbers, as they were told. */
    private static final class Rows {
        static final int DROP = 0;
        static final int LINE = 1;
        static final int COMB = 2;
        static final int WAVE = 3;
        static final int LAY = 4;
        static final int STRIKE = 5;
        static final int WIDTH = 6;
        static final int COLOUR_MOST = 7;
        /** Eight patterns of 60 strokes each are the most that is kept at once. */
        private static final int MOST = 480;
        private static final int[] LENGTHS = {4, 4, 6, 3, 1, 1};
        private static final int[] LEAST = {
            0, 0, 1, 0, 0, 0,
            0, 0, -1023, 1, 0, 0,
            0, 0, 1, 1, -1023, 1,
            0, 2, -1023, 0, 0, 0,
            0, 0, 0, 0, 0, 0};
        private static final int[] GREATEST = {
            1023, 1023, 512, COLOUR_MOST, 0, 0,
            1, 1023, 1023, 1023, 0, 0,
            1, 1023, 1023, 20, 1023, 1023,
            1, 1024, 1023, 0, 0, 0,
            63, 0, 0, 0, 0, 0};

        private final int[] kinds = new int[MOST];
        private final int[] numbers = new int[MOST * WIDTH];
        private int length;
        private int limit = MOST;

        void clear(int room) {
            length = 0;
            allow(room);
        }

        /** So many more may come. */
        void allow(int more) {
            limit = Math.min(length + Math.max(more, 0), MOST);
        }

        int size() {
            return length;
        }

        int roomLeft() {
            return limit - length;
        }

        boolean isFull() {
            return length >= limit;
        }

        /** Its number; NONE if there is no room. */
        int add(int kind, int[] told) {
            if (isFull() || length < 0 || length >= MOST) {
                return NONE;
            }
            kinds[length] = kind;
            for (int i = 0; i < WIDTH && i < told.length; i++) {
                numbers[length * WIDTH + i] = told[i];
            }
            length++;
            return length - 1;
        }

        void addAll(Rows others, int[] by) {
            for (int i = 0; i < others.length && i < MOST; i++) {
                for (int k = 0; k < WIDTH && k < by.length; k++) {
                    by[k] = others.numberOf(i, k);
                }
                add(others.kindOf(i), by);
            }
        }

        int kindOf(int row) {
            return row >= 0 && row < length && row < MOST ? kinds[row] : NONE;
        }

        int numberOf(int row, int i) {
            boolean told = row >= 0 && row < length && row < MOST && i >= 0 && i < WIDTH;
            return told ? numbers[row * WIDTH + i] : 0;
        }

        boolean isStroke(int row) {
            int kind = kindOf(row);
            return kind >= DROP && kind <= WAVE;
        }

        static int numbersOf(int kind) {
            return kind >= 0 && kind < LENGTHS.length ? LENGTHS[kind] : 0;
        }

        /** Whether all numbers of a stroke or a lay are in their bounds. */
        static boolean fits(int kind, int[] told) {
            for (int i = 0; i < numbersOf(kind) && i < told.length; i++) {
                int bound = kind * WIDTH + i;
                if (bound >= LEAST.length || bound >= GREATEST.length) {
                    return false;
                }
                if (told[i] < LEAST[bound] || told[i] > GREATEST[bound]) {
                    return false;
                }
            }
            return kind >= DROP && kind <= LAY;
        }
    }

    /** All facts, and what of them is known by n. */
    private static final class Log {
        private static final int MOST = 120;
        private final Rows facts = new Rows();
        private final boolean[] out = new boolean[MOST];
        private final int[] copied = new int[Rows.WIDTH];

        Log() {
            facts.clear(MOST);
        }

        Rows facts() {
            return facts;
        }

        int size() {
            return facts.size();
        }

        int roomLeft() {
            return facts.roomLeft();
        }

        boolean has(int fact) {
            return fact >= 0 && fact < facts.size();
        }

        boolean knows(int n) {
            return n >= 0 && n <= facts.size();
        }

        int tell(int kind, int[] told) {
            return Rows.fits(kind, told) ? facts.add(kind, told) : NONE;
        }

        int tellStrike(int[] told) {
            int fact = told.length > 0 ? told[0] : NONE;
            boolean some = has(fact) && facts.kindOf(fact) != Rows.STRIKE;
            return some ? facts.add(Rows.STRIKE, told) : NONE;
        }

        void tellAll(Rows strokes) {
            facts.addAll(strokes, copied);
        }

        boolean isOut(int fact, int n) {
            findOut(n);
            return fact >= 0 && fact < MOST && out[fact];
        }

        /** How many lays there are among the first n facts, without those struck out. */
        int laysKnown(int n) {
            findOut(n);
            int lays = 0;
            for (int i = 0; i < n && i < MOST; i++) {
                if (!out[i] && facts.kindOf(i) == Rows.LAY) {
                    lays++;
                }
            }
            return lays;
        }

        /** Puts into a bath the strokes with so many lays ahead of them; the lay that took them, or NONE. */
        int pickStrokes(Bath bath, int n, int lays) {
            findOut(n);
            bath.begin(facts, lays);
            int passed = 0;
            for (int i = 0; i < n && i < MOST; i++) {
                if (out[i]) {
                    continue;
                }
                if (facts.kindOf(i) == Rows.LAY) {
                    if (passed == lays) {
                        return i;
                    }
                    passed++;
                } else if (passed == lays && facts.isStroke(i)) {
                    bath.pick(i);
                }
            }
            return NONE;
        }

        private void findOut(int n) {
            for (int i = 0; i < MOST; i++) {
                out[i] = false;
            }
            for (int i = 0; i < n && i < MOST; i++) {
                if (facts.kindOf(i) == Rows.STRIKE) {
                    markOut(facts.numberOf(i, 0));
                }
            }
        }

        private void markOut(int fact) {
            if (fact >= 0 && fact < MOST) {
                out[fact] = true;
            }
        }
    }

    /** Some rows, picked as the strokes of one bath, as a map both ways. */
    private static final class Bath {
        /** What goBack answers for a point of no drop, and for one from beyond the rim. */
        static final int OF_NONE = -1;
        static final int BEYOND = -2;
        private static final int POINTS = 1024;
        private static final int PICKS_MOST = 120;
        private static final int TIRE_MOST = 9;
        /** A drag is below 1024, so that ten halvings leave nothing of it. */
        private static final int HALVINGS_MOST = 10;
        private static final int ROOT_ABOVE_ALL = 2048;
        private static final int ROOT_STEPS = 40;

        private final int[] picks = new int[PICKS_MOST];
        private Rows rows;
        private int picked;
        private int tire;
        private int atX;
        private int atY;

        Bath(Rows rows) {
            this.rows = rows;
        }

        void begin(Rows source, int lays) {
            rows = source;
            picked = 0;
            tire = Math.min(lays, TIRE_MOST);
        }

        void pick(int row) {
            if (picked >= 0 && picked < PICKS_MOST) {
                picks[picked] = row;
                picked++;
            }
        }

        int size() {
            return picked;
        }

        /** Where goBack or goForth came to. */
        int reachedX() {
            return atX;
        }

        int reachedY() {
            return atY;
        }

        static boolean isPoint(int x, int y) {
            return x >= 0 && x < POINTS && y >= 0 && y < POINTS;
        }

        /** BARE where there is no point, too: a shaken cell may hang over the rim. */
        int colourOf(int x, int y) {
            int source = goBack(x, y);
            return source >= 0 ? rows.numberOf(source, 3) : NONE;
        }

        /** The row of the drop of which the point is, or OF_NONE, or BEYOND. */
        int goBack(int x, int y) {
            atX = x;
            atY = y;
            for (int i = Math.min(picked, PICKS_MOST) - 1; i >= 0 && isPoint(atX, atY); i--) {
                int row = picks[i];
                if (rows.kindOf(row) != Rows.DROP) {
                    moveBy(row, -dragOf(row));
                } else if (!leaveDrop(row)) {
                    return row;
                }
            }
            return isPoint(atX, atY) ? OF_NONE : BEYOND;
        }

        /** False if the point is lost. */
        boolean goForth(int x, int y) {
            atX = x;
            atY = y;
            for (int i = 0; i < picked && i < PICKS_MOST && isPoint(atX, atY); i++) {
                int row = picks[i];
                if (rows.kindOf(row) == Rows.DROP) {
                    makeWay(row);
                } else {
                    moveBy(row, dragOf(row));
                }
            }
            return isPoint(atX, atY);
        }

        /** Goes back to where the point was ahead of a drop; false if it is of the drop. */
        private boolean leaveDrop(int row) {
            int x = rows.numberOf(row, 0);
            int y = rows.numberOf(row, 1);
            int far = squareOf(atX - x, atY - y);
            int left = far - squareOf(tired(rows.numberOf(row, 2)), 0);
            if (left < 0) {
                return false;
            }
            stretchFrom(x, y, root(left), root(far));
            return true;
        }

        /** Goes forth to where a drop pushes the point. */
        private void makeWay(int row) {
            int x = rows.numberOf(row, 0);
            int y = rows.numberOf(row, 1);
            int far = squareOf(atX - x, atY - y);
            int radius = tired(rows.numberOf(row, 2));
            if (far == 0) {
                atX += radius;
            } else {
                stretchFrom(x, y, root(far + squareOf(radius, 0)), root(far));
            }
        }

        private static int squareOf(int u, int v) {
            return u * u + v * v;
        }

        private int tired(int radius) {
            int less = radius * (10 - tire) / 10;
            return less < 1 ? 1 : less;
        }

        private void stretchFrom(int x, int y, int by, int over) {
            if (over != 0) {
                atX = x + (atX - x) * by / over;
                atY = y + (atY - y) * by / over;
            }
        }

        private void moveBy(int row, int drag) {
            if (rows.numberOf(row, 0) == 0) {
                atX += drag;
            } else {
                atY += drag;
            }
        }

        private int dragOf(int row) {
            int other = rows.numberOf(row, 0) == 0 ? atY : atX;
            int at = rows.numberOf(row, 1);
            switch (rows.kindOf(row)) {
                case Rows.LINE:
                    return toothDrag(other - at, rows.numberOf(row, 2), rows.numberOf(row, 3));
                case Rows.COMB:
                    int drag = 0;
                    for (int i = 0; i < rows.numberOf(row, 3); i++) {
                        int off = other - at - i * rows.numberOf(row, 2);
                        drag += toothDrag(off, rows.numberOf(row, 4), rows.numberOf(row, 5));
                    }
                    return drag;
                case Rows.WAVE:
                    return waveDrag(other, at, rows.numberOf(row, 2));
                default:
                    return 0;
            }
        }

        /** Halvings rounded towards 0, one behind the other, are one division by their power of 2. */
        private static int toothDrag(int off, int by, int half) {
            if (half <= 0) {
                return 0;
            }
            int halvings = (off < 0 ? -off : off) / half;
            return halvings > HALVINGS_MOST ? 0 : by / (1 << halvings);
        }

        private static int waveDrag(int other, int period, int by) {
            if (period <= 0) {
                return 0;
            }
            int behind = other % period;
            int nearest = behind < period - behind ? behind : period - behind;
            return by * nearest / period;
        }

        /** Newton's way from above: it falls until it stands on the root. */
        private static int root(int square) {
            int guess = square > 0 ? ROOT_ABOVE_ALL : 0;
            for (int i = 0; i < ROOT_STEPS && guess > 0; i++) {
                int next = (guess + square / guess) / 2;
                if (next >= guess) {
                    break;
                }
                guess = next;
            }
            return guess;
        }
    }

    /** The colours of 16 by 16 cells, and what can be measured of them. */
    private static final class Sheet {
        static final int SIDE = 16;
        private static final int CELLS = SIDE * SIDE;
        private final int[] cells = new int[CELLS];
        private final int[] waiting = new int[CELLS];
        private final boolean[] seen = new boolean[CELLS];
        private int waits;
        private int pieces;
        private int largest;
        private int shake;
        private int heldSheet = NONE;
        private int heldKnown = NONE;

        static boolean isCell(int i, int j) {
            return i >= 0 && i < SIDE && j >= 0 && j < SIDE;
        }

        /** What is known by n never changes later, so a sheet that is held need not be filled anew. */
        boolean holds(int number, int n) {
            return heldSheet == number && heldKnown == n;
        }

        void keepAs(int number, int n) {
            heldSheet = number;
            heldKnown = n;
        }

        void fill(Bath bath, int told) {
            shake = told;
            for (int at = 0; at < CELLS; at++) {
                cells[at] = bath.colourOf(pointX(at), pointY(at));
            }
        }

        /** Of the cell numbered at, which is cell at / SIDE, at % SIDE. */
        private int pointX(int at) {
            return 64 * (at / SIDE) + 32;
        }

        private int pointY(int at) {
            return 64 * (at % SIDE) + 32 + (at / SIDE % 2 == 0 ? 0 : shake);
        }

        /** How many cells a bath would make unlike; no more than enough are looked at. */
        int unlikeUpTo(int enough, Bath bath) {
            int unlike = 0;
            for (int at = 0; at < CELLS && unlike < enough; at++) {
                if (bath.colourOf(pointX(at), pointY(at)) != cells[at]) {
                    unlike++;
                }
            }
            return unlike;
        }

        int colourOf(int i, int j) {
            return isCell(i, j) ? cells[i * SIDE + j] : NONE;
        }

        int areaOf(int colour) {
            int area = 0;
            for (int at = 0; at < CELLS; at++) {
                if (cells[at] == colour) {
                    area++;
                }
            }
            return area;
        }

        int cellsUnlike(Sheet other) {
            int unlike = 0;
            for (int at = 0; at < CELLS; at++) {
                if (cells[at] != other.cells[at]) {
                    unlike++;
                }
            }
            return unlike;
        }

        int edgesUnlike(Sheet other, int shift) {
            int unlike = 0;
            for (int j = 0; j < SIDE; j++) {
                if (isCell(0, j + shift) && colourOf(SIDE - 1, j) != other.colourOf(0, j + shift)) {
                    unlike++;
                }
            }
            return unlike;
        }

        /** Shifts are tried from 0 outward, the one below 0 first, so that the first of alike ones stays. */
        int bestShift(Sheet other) {
            int best = 0;
            int bestUnlike = edgesUnlike(other, 0);
            for (int far = 1; far < SIDE; far++) {
                for (int side = -1; side <= 1; side += 2) {
                    int unlike = edgesUnlike(other, side * far);
                    if (unlike * (SIDE - Math.abs(best)) < bestUnlike * (SIDE - far)) {
                        best = side * far;
                        bestUnlike = unlike;
                    }
                }
            }
            return best;
        }

        int countPieces() {
            findPieces();
            return pieces;
        }

        int largestPiece() {
            findPieces();
            return largest;
        }

        private void findPieces() {
            pieces = 0;
            largest = 0;
            for (int at = 0; at < CELLS; at++) {
                seen[at] = cells[at] == NONE;
            }
            for (int at = 0; at < CELLS; at++) {
                if (!seen[at]) {
                    pieces++;
                    largest = Math.max(largest, sizeFrom(at / SIDE, at % SIDE));
                }
            }
        }

        /** Each cell waits once, so the room for all cells is enough. */
        private int sizeFrom(int i, int j) {
            int colour = colourOf(i, j);
            int size = 0;
            waits = 0;
            queue(i, j, colour);
            for (int turn = 0; turn < CELLS && waits > 0 && waits <= CELLS; turn++) {
                waits--;
                int at = waiting[waits];
                size++;
                queue(at / SIDE - 1, at % SIDE, colour);
                queue(at / SIDE + 1, at % SIDE, colour);
                queue(at / SIDE, at % SIDE - 1, colour);
                queue(at / SIDE, at % SIDE + 1, colour);
            }
            return size;
        }

        private void queue(int i, int j, int colour) {
            if (!isCell(i, j)) {
                return;
            }
            int at = i * SIDE + j;
            if (seen[at] || cells[at] != colour || waits < 0 || waits >= CELLS) {
                return;
            }
            seen[at] = true;
            waiting[waits] = at;
            waits++;
        }
    }

    /** Seeks the pattern, or the row of patterns, that comes near a sheet. */
    private static final class Maker {
        private static final int STROKES_MOST = 60;
        private static final int TRIED_MOST = 3;
        private static final int ROW_MOST = 3;

        private final Doer doer;
        private final Rows tried;
        private final Bath bath;
        private final Sheet target;
        private final int[] firsts = new int[Program.PATTERNS_MOST];
        private final int[] lengths = new int[Program.PATTERNS_MOST];
        private final int[] deeds = new int[Program.PATTERNS_MOST];
        private final int[] members = new int[ROW_MOST];
        private final int[] found = new int[ROW_MOST];
        private int foundLength;
        private int bestMade;
        private int bestOff;

        Maker(Doer doer, Rows tried, Bath bath, Sheet target) {
            this.doer = doer;
            this.tried = tried;
            this.bath = bath;
            this.target = target;
        }

        int bestMade() {
            return bestMade;
        }

        int bestOff() {
            return bestOff;
        }

        /** Of the latest row that was found. */
        int foundLength() {
            return foundLength;
        }

        int foundAt(int i) {
            return i >= 0 && i < ROW_MOST ? found[i] : NONE;
        }

        /** False if every pattern breaks. Only a better one comes in place of one that was tried earlier. */
        boolean seekBest(Program patterns, int lays) {
            bestMade = NONE;
            bestOff = Sheet.CELLS + 1;
            for (int pattern = 0; pattern < patterns.size(); pattern++) {
                int lastA = patterns.needs(pattern) > 0 ? TRIED_MOST : 0;
                int lastB = patterns.needs(pattern) > 1 ? TRIED_MOST : 0;
                for (int a = 0; a <= lastA; a++) {
                    for (int b = 0; b <= lastB; b++) {
                        tried.clear(STROKES_MOST);
                        if (doer.perform(patterns, pattern, a, b, tried) == 0) {
                            compare(16 * pattern + 4 * a + b, lays);
                        }
                    }
                }
            }
            return bestMade != NONE;
        }

        private void compare(int made, int lays) {
            bath.begin(tried, lays);
            pickAll(0, tried.size());
            int unlike = target.unlikeUpTo(bestOff, bath);
            if (unlike < bestOff) {
                bestOff = unlike;
                bestMade = made;
            }
        }

        private void pickAll(int first, int length) {
            for (int i = 0; i < length; i++) {
                bath.pick(first + i);
            }
        }

        /** The shortest row that is at most so far off, and the first of these; false if there is none. */
        boolean seekRow(Program patterns, int lays, int most) {
            doEach(patterns);
            int rows = 1;
            int enough = most < Sheet.CELLS ? most + 1 : Sheet.CELLS;
            for (int length = 1; length <= ROW_MOST; length++) {
                rows *= patterns.size();
                for (int number = 0; number < rows; number++) {
                    if (setMembers(number, length, patterns.size()) && holdsTogether(length)) {
                        pickMembers(length, lays);
                        if (target.unlikeUpTo(enough, bath) <= most) {
                            keepFound(length);
                            return true;
                        }
                    }
                }
            }
            return false;
        }

        /** Without parameters a pattern always makes the same strokes: each is done once for all rows. */
        private void doEach(Program patterns) {
            tried.clear(0);
            for (int i = 0; i < Program.PATTERNS_MOST; i++) {
                tried.allow(STROKES_MOST);
                firsts[i] = tried.size();
                boolean whole = patterns.has(i) && patterns.needs(i) == 0
                        && doer.perform(patterns, i, 0, 0, tried) == 0;
                lengths[i] = whole ? tried.size() - firsts[i] : NONE;
                deeds[i] = doer.deedsDone();
            }
        }

        /** Rows of a length are numbered in their order; false if there is no such one. */
        private boolean setMembers(int number, int length, int patterns) {
            if (patterns <= 0 || length > ROW_MOST) {
                return false;
            }
            int left = number;
            for (int i = length - 1; i >= 0; i--) {
                members[i] = left % patterns;
                left /= patterns;
            }
            return left == 0;
        }

        /** Whether each member is without parameters and breaks neither by itself nor in the row. */
        private boolean holdsTogether(int length) {
            int strokes = 0;
            int done = 0;
            for (int i = 0; i < length && i < ROW_MOST; i++) {
                int member = members[i];
                if (member < 0 || member >= Program.PATTERNS_MOST || lengths[member] == NONE) {
                    return false;
                }
                strokes += lengths[member];
                done += deeds[member];
            }
            return strokes <= STROKES_MOST && done <= Doer.DEEDS_MOST;
        }

        private void pickMembers(int length, int lays) {
            bath.begin(tried, lays);
            for (int i = 0; i < length && i < ROW_MOST; i++) {
                int member = members[i];
                if (member >= 0 && member < Program.PATTERNS_MOST) {
                    pickAll(firsts[member], lengths[member]);
                }
            }
        }

        private void keepFound(int length) {
            foundLength = length;
            for (int i = 0; i < ROW_MOST; i++) {
                found[i] = members[i];
            }
        }
    }
}
