/** Peat diggers on a bog: gangs work by taught programs, nights dry and wet the stacks. */
public final class PeatBog {
    private static final int SIDE = 8;
    private static final int CELLS = SIDE * SIDE;
    private static final int BARN = 0;
    private static final int TABLE_DAYS = 12;
    private static final int HOURS_OF_DAY = 10;
    private static final int MOST_RAIN_OR_SUN = 9;
    private static final int MOST_PEAT = 60;
    private static final int MOST_WATER = 9;
    private static final int MOST_BRICKS = 99;
    private static final int MOST_WETNESS = 20;
    private static final int DRY_WETNESS = 5;
    private static final int MOST_IN_CART = 40;
    private static final int MOST_CUT = 6;
    private static final int RISING_NIGHTS = 4;
    private static final int RISING_WATER = 4;

    private static final int MOST_GANGS = 4;
    private static final int MOST_REPEATS = 20;
    private static final int MOST_TOKENS = 400;
    private static final int MOST_DEPTH = 8;
    private static final int MOST_WORD = 10;
    private static final int MOST_DIGITS = 6;
    private static final int MOST_COUNTED = 50;
    /** No hour comes near it: 50 sentences count, and few that don't stand between two that do. */
    private static final int MOST_STEPS = 1_000_000;
    /** No sentence comes near it: a level of depth keeps at most five values waiting. */
    private static final int MOST_VALUES = 64;

    private static final int MOST_TAPE = 2000;
    private static final int FED_BYTES = 20;
    private static final int MOST_PASSED = 200;
    private static final int MOST_FORESEEN = 300;
    private static final int MOST_ADVISED = 120;
    private static final int MOST_NIGHTS = 60;
    private static final int KINDS_OF_COUNT = 13;
    private static final int KINDS_OF_CELL = 5;
    private static final int KINDS_OF_GANG = 9;
    private static final int KINDS_OF_FORESIGHT = 4;

    private final byte[] tape = new byte[MOST_TAPE];
    private int tapeLength = 0;
    private final byte[] paper = new byte[SIDE * (SIDE + 1)];
    private int paperLength = 0;
    private int errorPosition = -1;
    private final Parser parser = new Parser();
    /** What the next text is put into, so that one with an error leaves the taught one as it is. */
    private Program spare = new Program();
    private final Bog bog = new Bog(new Program());
    private final Worker worker = new Worker(bog);
    /** A copy of the bog, on which is tried out what will be. */
    private final Bog trial = new Bog(bog.program);
    private final Worker trialWorker = new Worker(trial);

    public PeatBog() {
    }

    // ---- the language

    public int feed(int a, int b, int c, int d, int e) throws IllegalStateException {
        if (tapeLength + FED_BYTES > MOST_TAPE) {
            throw new IllegalStateException("the tape is full");
        }
        append(a);
        append(b);
        append(c);
        append(d);
        append(e);
        return tapeLength;
    }

    private void append(int number) {
        for (int shift = 24; shift >= 0 && tapeLength < MOST_TAPE; shift -= 8) {
            tape[tapeLength] = (byte) (number >> shift);
            tapeLength++;
        }
    }

    public int trim(int n) throws IllegalArgumentException {
        if (n < 0 || n > tapeLength) {
            throw new IllegalArgumentException("the tape has no such length");
        }
        tapeLength = n;
        return n;
    }

    public int teach() {
        parser.parse(tape, tapeLength, spare);
        tapeLength = 0;
        errorPosition = parser.errorPosition;
        if (parser.error == 0) {
            Program old = bog.program;
            bog.employ(spare);
            spare = old;
        }
        return parser.error;
    }

    public int errorAt() {
        return errorPosition;
    }

    public int count(int what) throws IndexOutOfBoundsException {
        if (what < 0 || what >= KINDS_OF_COUNT) {
            throw new IndexOutOfBoundsException("nothing is counted by this number");
        }
        return counted(what);
    }

    private int counted(int what) {
        switch (what) {
            case 0: return bog.day;
            case 1: return bog.hour;
            case 2: return bog.gangCount;
            case 3: return tapeLength;
            case 4: return paperLength;
            case 5: return bog.dryBricks;
            case 6: return bog.wetBricks;
            case 7: return sumOf(bog.bricks);
            case 8: return bog.bricksInCarts();
            case 9: return bog.crumbled;
            case 10: return bog.cutBricks;
            case 11: return sumOf(bog.peat);
            default: return bog.floodedCells();
        }
    }

    private static int sumOf(int[] numbers) {
        int sum = 0;
        for (int number : numbers) {
            sum += number;
        }
        return sum;
    }

    // ---- bog and weather

    public int setWeather(int at, int rain, int sun) throws IndexOutOfBoundsException, IllegalArgumentException {
        if (at < 0 || at >= TABLE_DAYS) {
            throw new IndexOutOfBoundsException("the table has no such day");
        }
        if (!isWithin(rain, 0, MOST_RAIN_OR_SUN) || !isWithin(sun, 0, MOST_RAIN_OR_SUN)) {
            throw new IllegalArgumentException("rain and sun are 0 to 9");
        }
        int before = 10 * bog.rain[at] + bog.sun[at];
        bog.rain[at] = rain;
        bog.sun[at] = sun;
        return before;
    }

    public int set(int x, int y, int peat, int water) throws IndexOutOfBoundsException, IllegalArgumentException {
        if (!isCell(x, y)) {
            throw new IndexOutOfBoundsException("there is no such cell");
        }
        int at = cellAt(x, y);
        if (!isWithin(peat, 0, MOST_PEAT) || !isWithin(water, 0, MOST_WATER) || at == BARN && peat != 0) {
            throw new IllegalArgumentException("the cell can't have this peat and water");
        }
        int before = 10 * bog.peat[at] + bog.water[at];
        bog.peat[at] = peat;
        bog.water[at] = water;
        return before;
    }

    public int stack(int x, int y, int bricks, int wetness)
            throws IndexOutOfBoundsException, IllegalArgumentException, IllegalStateException {
        if (!isCell(x, y)) {
            throw new IndexOutOfBoundsException("there is no such cell");
        }
        if (!isWithin(bricks, 1, MOST_BRICKS) || !isWithin(wetness, 0, MOST_WETNESS)) {
            throw new IllegalArgumentException("no such bricks can be stacked");
        }
        int at = cellAt(x, y);
        if (bog.bricks[at] + bricks > MOST_BRICKS) {
            throw new IllegalStateException("the stack has no room for them");
        }
        bog.addToStack(at, bricks, wetness);
        return bog.bricks[at];
    }

    public int cell(int x, int y, int what) throws IndexOutOfBoundsException {
        if (!isCell(x, y)) {
            throw new IndexOutOfBoundsException("there is no such cell");
        }
        if (what < 0 || what >= KINDS_OF_CELL) {
            throw new IndexOutOfBoundsException("a cell tells nothing by this number");
        }
        return bog.tellCell(cellAt(x, y), what);
    }

    public int gang(int gang, int what) throws IndexOutOfBoundsException {
        if (gang < 0 || gang >= bog.gangCount) {
            throw new IndexOutOfBoundsException("there is no such gang");
        }
        if (what < 0 || what >= KINDS_OF_GANG) {
            throw new IndexOutOfBoundsException("a gang tells nothing by this number");
        }
        return bog.gangs[gang].tell(what);
    }

    private static boolean isWithin(int number, int least, int most) {
        return number >= least && number <= most;
    }

    private static boolean isCell(int x, int y) {
        return isWithin(x, 0, SIDE - 1) && isWithin(y, 0, SIDE - 1);
    }

    private static int cellAt(int x, int y) {
        return y * SIDE + x;
    }

    // ---- hours

    public int pass(int hours) throws IllegalArgumentException {
        if (hours < 1 || hours > MOST_PASSED) {
            throw new IllegalArgumentException("1 to 200 hours can go by");
        }
        int before = bog.dryBricks;
        letPass(worker, hours);
        return bog.dryBricks - before;
    }

    private static void letPass(Worker worker, int hours) {
        for (int i = 0; i < hours; i++) {
            for (int gang = 0; gang < worker.bog.gangCount; gang++) {
                worker.workHour(worker.bog.gangs[gang]);
            }
            worker.bog.endHour();
        }
    }

    // ---- what will be

    public int foresee(int hours, int what) throws IllegalArgumentException, IndexOutOfBoundsException {
        if (hours < 1 || hours > MOST_FORESEEN) {
            throw new IllegalArgumentException("1 to 300 hours can be foreseen");
        }
        if (what < 0 || what >= KINDS_OF_FORESIGHT) {
            throw new IndexOutOfBoundsException("nothing is foreseen by this number");
        }
        trial.copy(bog);
        letPass(trialWorker, hours);
        switch (what) {
            case 0: return trial.dryBricks;
            case 1: return trial.wetBricks;
            case 2: return trial.crumbled - bog.crumbled;
            default: return sumOf(trial.peat);
        }
    }

    public int dries(int x, int y) throws IndexOutOfBoundsException {
        if (!isCell(x, y)) {
            throw new IndexOutOfBoundsException("there is no such cell");
        }
        int at = cellAt(x, y);
        int wetness = bog.wetness[at];
        boolean isTurned = bog.turned[at] != 0;
        for (int nights = 0; nights <= MOST_NIGHTS; nights++) {
            if (wetness <= DRY_WETNESS) {
                return nights;
            }
            int day = (bog.day + nights) % TABLE_DAYS;
            wetness = wetnessBehindNight(wetness, isTurned, bog.rain[day], bog.sun[day]);
            isTurned = false;
        }
        return -1;
    }

    private static int wetnessBehindNight(int wetness, boolean isTurned, int rain, int sun) {
        int wetter = 2 * rain - sun - (isTurned ? sun : 0);
        return held(wetness + wetter, MOST_WETNESS);
    }

    private static int held(int number, int most) {
        return Math.max(0, Math.min(most, number));
    }

    public int done(int gang) throws IndexOutOfBoundsException {
        if (gang < 0 || gang >= bog.gangCount) {
            throw new IndexOutOfBoundsException("there is no such gang");
        }
        trial.copy(bog);
        for (int hours = 0; hours <= MOST_FORESEEN; hours++) {
            if (trial.gangs[gang].isDone) {
                return hours;
            }
            letPass(trialWorker, 1);
        }
        return -1;
    }

    public int advise(int hours) throws IllegalArgumentException {
        if (hours < 1 || hours > MOST_ADVISED) {
            throw new IllegalArgumentException("1 to 120 hours can be advised on");
        }
        trial.copy(bog);
        letPass(trialWorker, hours);
        int most = trial.dryBricks;
        int best = -1;
        for (int day = 0; day < TABLE_DAYS; day++) {
            trial.copy(bog);
            trial.rain[day] = 0;
            trial.sun[day] = MOST_RAIN_OR_SUN;
            letPass(trialWorker, hours);
            if (trial.dryBricks > most) {
                most = trial.dryBricks;
                best = day;
            }
        }
        return best;
    }

    public int draw() {
        int at = 0;
        for (int y = 0; y < SIDE; y++) {
            for (int x = 0; x < SIDE; x++) {
                paper[at] = (byte) signOf(cellAt(x, y));
                at++;
            }
            paper[at] = '\n';
            at++;
        }
        paperLength = at;
        return paperLength;
    }

    private char signOf(int at) {
        if (bog.hasGangAt(at)) {
            return 'G';
        }
        if (at == BARN) {
            return 'B';
        }
        if (bog.bricks[at] > 0) {
            return 'S';
        }
        if (bog.water[at] == MOST_WATER) {
            return '~';
        }
        int peat = bog.peat[at];
        return peat >= 40 ? '#' : peat >= 20 ? '+' : peat >= 1 ? '-' : '.';
    }

    public int byteAt(int index) throws IndexOutOfBoundsException {
        if (index < 0 || index >= paperLength) {
            throw new IndexOutOfBoundsException("there is no such place on the paper");
        }
        return paper[index];
    }

    public double share() {
        if (bog.cutBricks == 0) {
            return 0;
        }
        return (double) bog.dryBricks / bog.cutBricks;
    }

    public long digest() {
        long d = 701;
        for (int what = 0; what < KINDS_OF_COUNT; what++) {
            d = d * 31 + counted(what);
        }
        for (int day = 0; day < TABLE_DAYS; day++) {
            d = d * 31 + (10 * bog.rain[day] + bog.sun[day]);
        }
        for (int at = 0; at < CELLS; at++) {
            for (int what = 0; what < KINDS_OF_CELL; what++) {
                d = d * 31 + bog.tellCell(at, what);
            }
        }
        for (int gang = 0; gang < bog.gangCount; gang++) {
            for (int what = 0; what < KINDS_OF_GANG; what++) {
                d = d * 31 + bog.gangs[gang].tell(what);
            }
        }
        for (int i = 0; i < paperLength; i++) {
            d = d * 31 + paper[i];
        }
        return d;
    }

    /** The instructions of a program. Those up to LAST_OF_SUMS only reckon, the others are of sentences. */
    private static final class Op {
        static final int NUMBER = 0;
        static final int NEGATE = 1;
        static final int ADD = 2;
        static final int SUBTRACT = 3;
        static final int MULTIPLY = 4;
        static final int DIVIDE = 5;
        static final int SMALLER = 6;
        static final int GREATER = 7;
        static final int LESS = 8;
        static final int MORE = 9;
        static final int EQUAL = 10;
        static final int AT_MOST = 11;
        static final int AT_LEAST = 12;
        static final int NOT = 13;
        static final int AND = 14;
        static final int OR = 15;
        static final int FIRST_READING = 16;
        static final int X = 16;
        static final int Y = 17;
        static final int PEAT = 18;
        static final int BRICKS = 19;
        static final int WET = 20;
        static final int WATER = 21;
        static final int CART = 22;
        static final int DAMP = 23;
        static final int DAY = 24;
        static final int HOUR = 25;
        static final int RAIN = 26;
        static final int SUN = 27;
        static final int DRY_IN_BARN = 28;
        static final int LAST_OF_SUMS = 28;
        static final int GO = 29;
        static final int CUT = 30;
        static final int TURN = 31;
        static final int LOAD = 32;
        static final int UNLOAD = 33;
        static final int WAIT = 34;
        static final int BRANCH = 35;
        static final int BEGIN_REPEAT = 36;
        static final int REPEAT = 37;
        static final int JUMP = 38;
        static final int END = 39;
    }

    /** The kinds of tokens; a kind's group tells where in a sum or test it can stand. */
    private enum Token {
        GANG("gang"), AT("at"), GO("go"), CUT("cut"), TURN("turn"), LOAD("load"), UNLOAD("unload"),
        WAIT("wait"), IF("if"), ELSE("else"), REPEAT("repeat"), WHILE("while"),
        X("x", Token.READING, Op.X), Y("y", Token.READING, Op.Y),
        PEAT("peat", Token.READING, Op.PEAT), BRICKS("bricks", Token.READING, Op.BRICKS),
        WET("wet", Token.READING, Op.WET), WATER("water", Token.READING, Op.WATER),
        CART("cart", Token.READING, Op.CART), DAMP("damp", Token.READING, Op.DAMP),
        DAY("day", Token.READING, Op.DAY), HOUR("hour", Token.READING, Op.HOUR),
        RAIN("rain", Token.READING, Op.RAIN), SUN("sun", Token.READING, Op.SUN),
        BARN("barn", Token.READING, Op.DRY_IN_BARN),
        NOT("not"), AND("and"), OR("or"),
        MIN("min", Token.EXTREME, Op.SMALLER), MAX("max", Token.EXTREME, Op.GREATER),
        LEFT_BRACE("{"), RIGHT_BRACE("}"), LEFT_PAREN("("), RIGHT_PAREN(")"),
        LEFT_BRACKET("["), RIGHT_BRACKET("]"), SEMICOLON(";"), COMMA(","),
        PLUS("+", Token.ADDING, Op.ADD), MINUS("-", Token.ADDING, Op.SUBTRACT),
        TIMES("*", Token.MULTIPLYING, Op.MULTIPLY), BY("/", Token.MULTIPLYING, Op.DIVIDE),
        LESS("<", Token.COMPARING, Op.LESS), MORE(">", Token.COMPARING, Op.MORE),
        EQUAL("=", Token.COMPARING, Op.EQUAL),
        AT_MOST("<=", Token.COMPARING, Op.AT_MOST), AT_LEAST(">=", Token.COMPARING, Op.AT_LEAST),
        NAME(""), NUMBER(""), END(""), WRONG("");

        static final int NO_GROUP = 0;
        static final int READING = 1;
        static final int EXTREME = 2;
        static final int ADDING = 3;
        static final int MULTIPLYING = 4;
        static final int COMPARING = 5;
        private static final Token[] ALL = values();

        final String text;
        final int group;
        final int op;

        Token(String text) {
            this(text, NO_GROUP, 0);
        }

        Token(String text, int group, int op) {
            this.text = text;
            this.group = group;
            this.op = op;
        }

        /** The keyword or symbol that these bytes are, or the given kind if they are none. */
        static Token find(byte[] tape, int start, int end, Token otherwise) {
            for (Token token : ALL) {
                if (token.isWritten(tape, start, end)) {
                    return token;
                }
            }
            return otherwise;
        }

        private boolean isWritten(byte[] tape, int start, int end) {
            if (text.length() != end - start || start < 0 || end > tape.length) {
                return false;
            }
            for (int i = 0; i < text.length(); i++) {
                if (tape[start + i] != text.charAt(i)) {
                    return false;
                }
            }
            return true;
        }
    }

    /** Cuts a tape into tokens, up to its end or the first byte that no token can begin with. */
    private static final class Scanner {
        private final Token[] kinds = new Token[MOST_TOKENS + 1];
        private final int[] starts = new int[MOST_TOKENS + 1];
        private final int[] ends = new int[MOST_TOKENS + 1];
        private byte[] tape = new byte[0];
        private int length = 0;

        /** The last token is END or WRONG, and no other one is. */
        void scan(byte[] newTape, int newLength) {
            tape = newTape;
            length = Math.min(newLength, newTape.length);
            int at = 0;
            boolean isOver = false;
            for (int i = 0; i <= MOST_TOKENS && !isOver; i++) {
                starts[i] = behindBlanks(at);
                ends[i] = starts[i];
                kinds[i] = scanToken(i);
                if (i == MOST_TOKENS && kinds[i] != Token.END) {
                    kinds[i] = Token.WRONG;
                }
                isOver = kinds[i] == Token.END || kinds[i] == Token.WRONG;
                at = ends[i];
            }
        }

        private int behindBlanks(int from) {
            int at = from;
            while (at < length && (tape[at] == ' ' || tape[at] == '\n')) {
                at++;
            }
            return at;
        }

        /** Sets the token's end, too. */
        private Token scanToken(int i) {
            int start = starts[i];
            if (start >= length) {
                return Token.END;
            }
            if (isLetter(start)) {
                ends[i] = behindWord(start);
                boolean isTooLong = ends[i] - start > MOST_WORD;
                return isTooLong ? Token.WRONG : Token.find(tape, start, ends[i], Token.NAME);
            }
            if (isDigit(start)) {
                ends[i] = behindDigits(start);
                return ends[i] - start > MOST_DIGITS ? Token.WRONG : Token.NUMBER;
            }
            return scanSymbol(i);
        }

        private Token scanSymbol(int i) {
            int start = starts[i];
            if (start + 2 <= length) {
                Token pair = Token.find(tape, start, start + 2, Token.WRONG);
                if (pair != Token.WRONG) {
                    ends[i] = start + 2;
                    return pair;
                }
            }
            ends[i] = start + 1;
            return Token.find(tape, start, start + 1, Token.WRONG);
        }

        private int behindWord(int from) {
            int at = from;
            while (at < length && (isLetter(at) || isDigit(at))) {
                at++;
            }
            return at;
        }

        private int behindDigits(int from) {
            int at = from;
            while (at < length && isDigit(at)) {
                at++;
            }
            return at;
        }

        private boolean isLetter(int at) {
            return tape[at] >= 'a' && tape[at] <= 'z';
        }

        private boolean isDigit(int at) {
            return tape[at] >= '0' && tape[at] <= '9';
        }

        Token kindOf(int token) {
            boolean isThere = token >= 0 && token < kinds.length && kinds[token] != null;
            return isThere ? kinds[token] : Token.WRONG;
        }

        int startOf(int token) {
            return token >= 0 && token < starts.length ? starts[token] : length;
        }

        private int endOf(int token) {
            return token >= 0 && token < ends.length ? ends[token] : length;
        }

        int numberAt(int token) {
            int number = 0;
            int end = endOf(token);
            for (int i = startOf(token); i < end; i++) {
                number = number * 10 + (tape[i] - '0');
            }
            return number;
        }

        boolean isSameText(int one, int other) {
            int start = startOf(one);
            int otherStart = startOf(other);
            int size = endOf(one) - start;
            if (endOf(other) - otherStart != size) {
                return false;
            }
            for (int i = 0; i < size; i++) {
                if (tape[start + i] != tape[otherStart + i]) {
                    return false;
                }
            }
            return true;
        }
    }

    /** What the gangs are taught: the sums behind their values, the sentences behind their sums. */
    private static final class Program {
        /** A token makes at most one instruction, but for repeat and its number, which make four. */
        private static final int MOST = 2 * MOST_TOKENS;

        private final int[] ops = new int[MOST];
        private final int[] arguments = new int[MOST];
        private int length = 0;
        private final int[] entries = new int[MOST_GANGS];
        private final int[] xs = new int[MOST_GANGS];
        private final int[] ys = new int[MOST_GANGS];
        private int gangCount = 0;

        void clear() {
            length = 0;
            gangCount = 0;
        }

        void addGang(int x, int y) {
            if (gangCount < MOST_GANGS && isCell(x, y)) {
                entries[gangCount] = length;
                xs[gangCount] = x;
                ys[gangCount] = y;
                gangCount++;
            }
        }

        /** Always true, so that it can stand in a chain of what a text needs. */
        boolean emit(int op, int argument) {
            if (length < MOST) {
                ops[length] = op;
                arguments[length] = argument;
                length++;
            }
            return true;
        }

        /** Lets the instruction lead to the place behind the latest one. */
        void leadHere(int instruction) {
            if (instruction >= 0 && instruction < length) {
                arguments[instruction] = length;
            }
        }

        int opAt(int at) {
            return at >= 0 && at < length ? ops[at] : Op.END;
        }

        int argumentAt(int at) {
            return at >= 0 && at < length ? arguments[at] : 0;
        }
    }

    /** Reads a text into a program. The methods for parts of it tell whether there was no error 1. */
    private static final class Parser {
        private final Scanner scanner = new Scanner();
        private final int[] names = new int[MOST_GANGS];
        private int nameCount;
        private Program program = new Program();
        private int at;
        private int error = 0;
        private int errorPosition = -1;

        void parse(byte[] tape, int length, Program target) {
            scanner.scan(tape, length);
            program = target;
            program.clear();
            at = 0;
            nameCount = 0;
            error = 0;
            errorPosition = -1;
            boolean isText = true;
            for (int i = 0; i < MOST_TOKENS && isText && kind() == Token.GANG; i++) {
                isText = oneGang();
            }
            if (isText && kind() != Token.END) {
                refuse();
            }
        }

        private Token kind() {
            return scanner.kindOf(at);
        }

        /** Error 1 goes before the others, wherever they are. */
        private boolean refuse() {
            error = 1;
            errorPosition = scanner.startOf(at);
            return false;
        }

        /** An error 2 to 4 is told only if none was noted to the left of it. */
        private void note(int newError, int token) {
            if (error == 0) {
                error = newError;
                errorPosition = scanner.startOf(token);
            }
        }

        private boolean expect(Token token) {
            if (kind() != token) {
                return refuse();
            }
            at++;
            return true;
        }

        /** Expects a token behind which the depth is one greater. */
        private boolean enter(Token token, int depth) {
            if (kind() != token || depth >= MOST_DEPTH) {
                return refuse();
            }
            at++;
            return true;
        }

        private boolean oneGang() {
            at++;
            int name = at;
            if (!expect(Token.NAME)) {
                return false;
            }
            noteName(name);
            if (!expect(Token.AT)) {
                return false;
            }
            int x = at;
            if (!limitedNumber(SIDE - 1)) {
                return false;
            }
            int y = at;
            if (!limitedNumber(SIDE - 1)) {
                return false;
            }
            program.addGang(scanner.numberAt(x), scanner.numberAt(y));
            return block(0) && program.emit(Op.END, 0);
        }

        private void noteName(int name) {
            for (int i = 0; i < nameCount; i++) {
                if (scanner.isSameText(names[i], name)) {
                    note(2, name);
                }
            }
            if (nameCount < MOST_GANGS) {
                names[nameCount] = name;
                nameCount++;
            } else {
                note(4, name);
            }
        }

        private boolean limitedNumber(int most) {
            int number = at;
            if (!expect(Token.NUMBER)) {
                return false;
            }
            if (scanner.numberAt(number) > most) {
                note(3, number);
            }
            return true;
        }

        private boolean block(int depth) {
            if (!enter(Token.LEFT_BRACE, depth)) {
                return false;
            }
            for (int i = 0; i < MOST_TOKENS && kind() != Token.RIGHT_BRACE; i++) {
                if (!sentence(depth + 1)) {
                    return false;
                }
            }
            return expect(Token.RIGHT_BRACE);
        }

        private boolean sentence(int depth) {
            Token first = kind();
            switch (first) {
                case GO:
                    at++;
                    return sum(depth) && expect(Token.COMMA) && sum(depth) && end(Op.GO);
                case CUT:
                    at++;
                    return sum(depth) && end(Op.CUT);
                case TURN:
                    at++;
                    return end(Op.TURN);
                case LOAD:
                    at++;
                    return sum(depth) && end(Op.LOAD);
                case UNLOAD:
                    at++;
                    return end(Op.UNLOAD);
                case WAIT:
                    at++;
                    return sum(depth) && end(Op.WAIT);
                case IF:
                    return choice(depth);
                case REPEAT:
                    return countedLoop(depth);
                case WHILE:
                    return testedLoop(depth);
                default:
                    return refuse();
            }
        }

        private boolean end(int op) {
            return expect(Token.SEMICOLON) && program.emit(op, 0);
        }

        private boolean choice(int depth) {
            at++;
            if (!test(depth)) {
                return false;
            }
            int branch = program.length;
            program.emit(Op.BRANCH, 0);
            if (!block(depth)) {
                return false;
            }
            if (kind() != Token.ELSE) {
                program.leadHere(branch);
                return true;
            }
            at++;
            int jump = program.length;
            program.emit(Op.JUMP, 0);
            program.leadHere(branch);
            if (!block(depth)) {
                return false;
            }
            program.leadHere(jump);
            return true;
        }

        private boolean testedLoop(int depth) {
            at++;
            int start = program.length;
            if (!test(depth)) {
                return false;
            }
            int branch = program.length;
            program.emit(Op.BRANCH, 0);
            if (!block(depth)) {
                return false;
            }
            program.emit(Op.JUMP, start);
            program.leadHere(branch);
            return true;
        }

        /** Loops in one another have other depths, so the depth tells a loop's counter. */
        private boolean countedLoop(int depth) {
            at++;
            int number = at;
            if (!limitedNumber(MOST_REPEATS)) {
                return false;
            }
            int times = scanner.numberAt(number);
            program.emit(Op.NUMBER, times);
            program.emit(Op.BEGIN_REPEAT, depth);
            int start = program.length;
            program.emit(Op.NUMBER, depth);
            int repeat = program.length;
            program.emit(Op.REPEAT, 0);
            if (!block(depth)) {
                return false;
            }
            program.emit(Op.JUMP, start);
            program.leadHere(repeat);
            return true;
        }

        private boolean test(int depth) {
            boolean isRight = both(depth);
            for (int i = 0; i < MOST_TOKENS && isRight && kind() == Token.OR; i++) {
                at++;
                isRight = both(depth) && program.emit(Op.OR, 0);
            }
            return isRight;
        }

        private boolean both(int depth) {
            boolean isRight = single(depth);
            for (int i = 0; i < MOST_TOKENS && isRight && kind() == Token.AND; i++) {
                at++;
                isRight = single(depth) && program.emit(Op.AND, 0);
            }
            return isRight;
        }

        private boolean single(int depth) {
            if (kind() == Token.NOT) {
                return enter(Token.NOT, depth) && single(depth + 1) && program.emit(Op.NOT, 0);
            }
            if (kind() == Token.LEFT_BRACKET) {
                return enter(Token.LEFT_BRACKET, depth) && test(depth + 1) && expect(Token.RIGHT_BRACKET);
            }
            if (!sum(depth)) {
                return false;
            }
            Token comparison = kind();
            if (comparison.group != Token.COMPARING) {
                return refuse();
            }
            at++;
            return sum(depth) && program.emit(comparison.op, 0);
        }

        private boolean sum(int depth) {
            boolean isRight = product(depth);
            for (int i = 0; i < MOST_TOKENS && isRight && kind().group == Token.ADDING; i++) {
                int op = kind().op;
                at++;
                isRight = product(depth) && program.emit(op, 0);
            }
            return isRight;
        }

        private boolean product(int depth) {
            boolean isRight = value(depth);
            for (int i = 0; i < MOST_TOKENS && isRight && kind().group == Token.MULTIPLYING; i++) {
                int op = kind().op;
                at++;
                isRight = value(depth) && program.emit(op, 0);
            }
            return isRight;
        }

        private boolean value(int depth) {
            Token first = kind();
            if (first == Token.NUMBER) {
                at++;
                return program.emit(Op.NUMBER, scanner.numberAt(at - 1));
            }
            if (first.group == Token.READING) {
                at++;
                return program.emit(first.op, 0);
            }
            if (first == Token.MINUS) {
                return enter(Token.MINUS, depth) && value(depth + 1) && program.emit(Op.NEGATE, 0);
            }
            if (first == Token.LEFT_PAREN) {
                return enter(Token.LEFT_PAREN, depth) && sum(depth + 1) && expect(Token.RIGHT_PAREN);
            }
            if (first.group == Token.EXTREME) {
                at++;
                return enter(Token.LEFT_PAREN, depth) && sum(depth + 1) && expect(Token.COMMA)
                        && sum(depth + 1) && expect(Token.RIGHT_PAREN) && program.emit(first.op, 0);
            }
            return refuse();
        }
    }

    /** A gang, its cart, and how far it has come in the program. */
    private static final class Gang {
        private int x;
        private int y;
        private int cart;
        private int damp;
        private boolean isDone;
        private int idleHours;
        private int missedHours;
        private int allHours;
        private int waitingHours;
        private int next;
        /** How often the repeat in each depth has still to repeat its block. */
        private final int[] repeats = new int[MOST_DEPTH + 1];

        void begin(int newX, int newY, int entry) {
            x = newX;
            y = newY;
            cart = 0;
            damp = 0;
            isDone = false;
            idleHours = 0;
            missedHours = 0;
            allHours = 0;
            waitingHours = 0;
            next = entry;
        }

        void copy(Gang other) {
            x = other.x;
            y = other.y;
            cart = other.cart;
            damp = other.damp;
            isDone = other.isDone;
            idleHours = other.idleHours;
            missedHours = other.missedHours;
            allHours = other.allHours;
            waitingHours = other.waitingHours;
            next = other.next;
            System.arraycopy(other.repeats, 0, repeats, 0, repeats.length);
        }

        void addToCart(int more, int wetness) {
            damp = mixed(cart, damp, more, wetness);
            cart += more;
        }

        void takeFromCart(int fewer) {
            cart -= fewer;
            if (cart == 0) {
                damp = 0;
            }
        }

        int tell(int what) {
            switch (what) {
                case 0: return x;
                case 1: return y;
                case 2: return cart;
                case 3: return damp;
                case 4: return isDone ? 1 : 0;
                case 5: return idleHours;
                case 6: return missedHours;
                case 7: return allHours;
                default: return waitingHours;
            }
        }
    }

    private static int mixed(int bricks, int wetness, int otherBricks, int otherWetness) {
        int all = bricks + otherBricks;
        return all == 0 ? 0 : (wetness * bricks + otherWetness * otherBricks) / all;
    }

    /** The cells, the weather, the barn and the gangs. */
    private static final class Bog {
        private final int[] peat = new int[CELLS];
        private final int[] peatBefore = new int[CELLS];
        private final int[] water = new int[CELLS];
        private final int[] bricks = new int[CELLS];
        private final int[] wetness = new int[CELLS];
        private final int[] turned = new int[CELLS];
        private final int[] rain = new int[TABLE_DAYS];
        private final int[] sun = new int[TABLE_DAYS];
        private int day = 0;
        private int hour = 0;
        private int dryBricks = 0;
        private int wetBricks = 0;
        private int crumbled = 0;
        private int cutBricks = 0;
        private final Gang[] gangs = new Gang[MOST_GANGS];
        private int gangCount = 0;
        private Program program;

        Bog(Program program) {
            this.program = program;
            for (int i = 0; i < CELLS; i++) {
                peat[i] = i == BARN ? 0 : 30;
                water[i] = 3;
            }
            for (int i = 0; i < TABLE_DAYS; i++) {
                sun[i] = 4;
            }
            for (int i = 0; i < MOST_GANGS; i++) {
                gangs[i] = new Gang();
            }
        }

        void copy(Bog other) {
            System.arraycopy(other.peat, 0, peat, 0, CELLS);
            System.arraycopy(other.water, 0, water, 0, CELLS);
            System.arraycopy(other.bricks, 0, bricks, 0, CELLS);
            System.arraycopy(other.wetness, 0, wetness, 0, CELLS);
            System.arraycopy(other.turned, 0, turned, 0, CELLS);
            System.arraycopy(other.rain, 0, rain, 0, TABLE_DAYS);
            System.arraycopy(other.sun, 0, sun, 0, TABLE_DAYS);
            day = other.day;
            hour = other.hour;
            dryBricks = other.dryBricks;
            wetBricks = other.wetBricks;
            crumbled = other.crumbled;
            cutBricks = other.cutBricks;
            gangCount = other.gangCount;
            program = other.program;
            for (int i = 0; i < gangCount; i++) {
                gangs[i].copy(other.gangs[i]);
            }
        }

        void employ(Program newProgram) {
            program = newProgram;
            gangCount = newProgram.gangCount;
            for (int i = 0; i < gangCount; i++) {
                gangs[i].begin(newProgram.xs[i], newProgram.ys[i], newProgram.entries[i]);
            }
        }

        int rainOfDay() {
            return rain[day % TABLE_DAYS];
        }

        int sunOfDay() {
            return sun[day % TABLE_DAYS];
        }

        int bricksInCarts() {
            int sum = 0;
            for (int i = 0; i < gangCount; i++) {
                sum += gangs[i].cart;
            }
            return sum;
        }

        int floodedCells() {
            int cells = 0;
            for (int i = 0; i < CELLS; i++) {
                if (water[i] == MOST_WATER) {
                    cells++;
                }
            }
            return cells;
        }

        boolean hasGangAt(int at) {
            for (int i = 0; i < gangCount; i++) {
                if (cellAt(gangs[i].x, gangs[i].y) == at) {
                    return true;
                }
            }
            return false;
        }

        int tellCell(int at, int what) {
            switch (what) {
                case 0: return peat[at];
                case 1: return water[at];
                case 2: return bricks[at];
                case 3: return wetness[at];
                default: return turned[at];
            }
        }

        void addToStack(int at, int more, int moreWetness) {
            wetness[at] = mixed(bricks[at], wetness[at], more, moreWetness);
            bricks[at] += more;
        }

        void takeFromStack(int at, int fewer) {
            bricks[at] -= fewer;
            if (bricks[at] == 0) {
                wetness[at] = 0;
                turned[at] = 0;
            }
        }

        void endHour() {
            hour++;
            if (hour == HOURS_OF_DAY) {
                dryStacks();
                moveWater();
                if ((day + 1) % RISING_NIGHTS == 0) {
                    rise();
                }
                day++;
                hour = 0;
            }
        }

        private void dryStacks() {
            for (int i = 0; i < CELLS; i++) {
                if (bricks[i] > 0) {
                    wetness[i] = wetnessBehindNight(wetness[i], turned[i] != 0, rainOfDay(), sunOfDay());
                    turned[i] = 0;
                    if (wetness[i] == MOST_WETNESS) {
                        int lost = bricks[i] / 10;
                        bricks[i] -= lost;
                        crumbled += lost;
                    }
                }
            }
        }

        private void moveWater() {
            int more = rainOfDay() / 2 - sunOfDay() / 4;
            for (int i = 0; i < CELLS; i++) {
                int fromBareGround = peat[i] == 0 && i != BARN ? 1 : 0;
                water[i] = held(water[i] + more + fromBareGround, MOST_WATER);
            }
        }

        private void rise() {
            System.arraycopy(peat, 0, peatBefore, 0, CELLS);
            for (int i = 0; i < CELLS; i++) {
                boolean canRise = i != BARN && water[i] >= RISING_WATER && peatBefore[i] < MOST_PEAT;
                if (canRise && (peatBefore[i] > 0 || neighboursWithPeat(i) >= 2)) {
                    peat[i]++;
                }
            }
        }

        private int neighboursWithPeat(int at) {
            int x = at % SIDE;
            int y = at / SIDE;
            int found = 0;
            if (x > 0 && peatBefore[at - 1] > 0) {
                found++;
            }
            if (x < SIDE - 1 && peatBefore[at + 1] > 0) {
                found++;
            }
            if (y > 0 && peatBefore[at - SIDE] > 0) {
                found++;
            }
            if (y < SIDE - 1 && peatBefore[at + SIDE] > 0) {
                found++;
            }
            return found;
        }
    }

    /** Lets the gangs of a bog work, an hour of one gang at a time. */
    private static final class Worker {
        private final Bog bog;
        private Gang gang;
        private final int[] values = new int[MOST_VALUES];
        private int valueCount = 0;
        private int counted = 0;

        Worker(Bog bog) {
            this.bog = bog;
            this.gang = bog.gangs[0];
        }

        void workHour(Gang newGang) {
            gang = newGang;
            gang.allHours++;
            if (gang.waitingHours > 0) {
                gang.waitingHours--;
                return;
            }
            counted = 0;
            boolean isOver = false;
            for (int i = 0; i < MOST_STEPS && !isOver; i++) {
                isOver = carryOut(reckonSums());
            }
        }

        /** Leaves the gang's sentence as the next one, since it may be come to again. */
        private int reckonSums() {
            valueCount = 0;
            int at = gang.next;
            while (at < bog.program.length && bog.program.ops[at] <= Op.LAST_OF_SUMS) {
                reckon(bog.program.ops[at], bog.program.arguments[at]);
                at++;
            }
            return at;
        }

        private void push(int value) {
            if (valueCount < MOST_VALUES) {
                values[valueCount] = value;
                valueCount++;
            }
        }

        private int pop() {
            if (valueCount == 0) {
                return 0;
            }
            valueCount--;
            return values[valueCount];
        }

        private void reckon(int op, int argument) {
            if (op == Op.NUMBER) {
                push(argument);
            } else if (op >= Op.FIRST_READING) {
                push(read(op));
            } else if (op == Op.NEGATE) {
                push(-pop());
            } else if (op == Op.NOT) {
                push(pop() == 0 ? 1 : 0);
            } else {
                int right = pop();
                int left = pop();
                push(join(op, left, right));
            }
        }

        private int read(int op) {
            int here = cellAt(gang.x, gang.y);
            switch (op) {
                case Op.X: return gang.x;
                case Op.Y: return gang.y;
                case Op.PEAT: return bog.peat[here];
                case Op.BRICKS: return bog.bricks[here];
                case Op.WET: return bog.wetness[here];
                case Op.WATER: return bog.water[here];
                case Op.CART: return gang.cart;
                case Op.DAMP: return gang.damp;
                case Op.DAY: return bog.day;
                case Op.HOUR: return bog.hour;
                case Op.RAIN: return bog.rainOfDay();
                case Op.SUN: return bog.sunOfDay();
                default: return bog.dryBricks;
            }
        }

        private static int join(int op, int left, int right) {
            switch (op) {
                case Op.ADD: return left + right;
                case Op.SUBTRACT: return left - right;
                case Op.MULTIPLY: return left * right;
                case Op.DIVIDE: return right == 0 ? 0 : left / right;
                case Op.SMALLER: return Math.min(left, right);
                case Op.GREATER: return Math.max(left, right);
                case Op.LESS: return left < right ? 1 : 0;
                case Op.MORE: return left > right ? 1 : 0;
                case Op.EQUAL: return left == right ? 1 : 0;
                case Op.AT_MOST: return left <= right ? 1 : 0;
                case Op.AT_LEAST: return left >= right ? 1 : 0;
                case Op.AND: return left & right;
                default: return left | right;
            }
        }

        /** Tells whether the hour is over; so do the methods for the sentences. */
        private boolean carryOut(int at) {
            int argument = bog.program.argumentAt(at);
            switch (bog.program.opAt(at)) {
                case Op.GO: return go(at);
                case Op.CUT: return cut(at);
                case Op.TURN: return turn(at);
                case Op.LOAD: return load(at);
                case Op.UNLOAD: return unload(at);
                case Op.WAIT: return rest(at);
                case Op.BRANCH: return branch(at, argument);
                case Op.BEGIN_REPEAT: return beginRepeat(at, argument);
                case Op.REPEAT: return repeat(at, argument);
                case Op.JUMP:
                    gang.next = argument;
                    return false;
                default:
                    gang.isDone = true;
                    gang.idleHours++;
                    return true;
            }
        }

        /** Counts a sentence that takes no hour, or ends the hour if no more of them fits in. */
        private boolean isHourOver() {
            if (counted >= MOST_COUNTED) {
                gang.idleHours++;
                return true;
            }
            counted++;
            return false;
        }

        private boolean branch(int at, int otherwise) {
            if (isHourOver()) {
                return true;
            }
            gang.next = pop() != 0 ? at + 1 : otherwise;
            return false;
        }

        private boolean beginRepeat(int at, int depth) {
            int times = pop();
            if (depth >= 0 && depth < gang.repeats.length) {
                gang.repeats[depth] = times;
            }
            gang.next = at + 1;
            return false;
        }

        private boolean repeat(int at, int behind) {
            if (isHourOver()) {
                return true;
            }
            int depth = pop();
            if (depth >= 0 && depth < gang.repeats.length && gang.repeats[depth] > 0) {
                gang.repeats[depth]--;
                gang.next = at + 1;
            } else {
                gang.next = behind;
            }
            return false;
        }

        private boolean go(int at) {
            int y = pop();
            int x = pop();
            if (!isCell(x, y)) {
                gang.missedHours++;
                gang.next = at + 1;
                return true;
            }
            if (x == gang.x && y == gang.y) {
                if (isHourOver()) {
                    return true;
                }
                gang.next = at + 1;
                return false;
            }
            int nextX = gang.x + Integer.compare(x, gang.x);
            int nextY = x == gang.x ? gang.y + Integer.compare(y, gang.y) : gang.y;
            if (bog.water[cellAt(nextX, nextY)] == MOST_WATER) {
                gang.missedHours++;
            } else {
                gang.x = nextX;
                gang.y = nextY;
            }
            return true;
        }

        /** An hour that moved no bricks is missed. */
        private boolean endHour(int at, int bricks) {
            if (bricks <= 0) {
                gang.missedHours++;
            }
            gang.next = at + 1;
            return true;
        }

        private boolean cut(int at) {
            int here = cellAt(gang.x, gang.y);
            int most = Math.min(Math.min(MOST_CUT, bog.peat[here]), MOST_BRICKS - bog.bricks[here]);
            int bricks = Math.min(pop(), most);
            if (bricks > 0) {
                bog.peat[here] -= bricks;
                bog.cutBricks += bricks;
                bog.addToStack(here, bricks, MOST_WETNESS);
            }
            return endHour(at, bricks);
        }

        private boolean turn(int at) {
            int here = cellAt(gang.x, gang.y);
            if (bog.bricks[here] > 0) {
                bog.turned[here] = 1;
            }
            return endHour(at, bog.bricks[here]);
        }

        private boolean load(int at) {
            int here = cellAt(gang.x, gang.y);
            int bricks = Math.min(pop(), Math.min(bog.bricks[here], MOST_IN_CART - gang.cart));
            if (bricks > 0) {
                gang.addToCart(bricks, bog.wetness[here]);
                bog.takeFromStack(here, bricks);
            }
            return endHour(at, bricks);
        }

        private boolean unload(int at) {
            int here = cellAt(gang.x, gang.y);
            int bricks = here == BARN ? gang.cart : Math.min(gang.cart, MOST_BRICKS - bog.bricks[here]);
            if (bricks > 0) {
                if (here != BARN) {
                    bog.addToStack(here, bricks, gang.damp);
                } else if (gang.damp <= DRY_WETNESS) {
                    bog.dryBricks += bricks;
                } else {
                    bog.wetBricks += bricks;
                }
                gang.takeFromCart(bricks);
            }
            return endHour(at, bricks);
        }

        private boolean rest(int at) {
            gang.waitingHours = Math.max(1, pop()) - 1;
            gang.next = at + 1;
            return true;
        }
    }
}
