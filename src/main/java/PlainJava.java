import java.util.ArrayList;

/**
 * A plain house for a part of the Java language: texts of static methods become trees, the trees
 * are judged by the published rules, and programs without an ERROR are run.
 */
public final class PlainJava {
    /** There is none such. */
    public static final int BAD = -1;
    /** Not now; nothing there. */
    public static final int NO = -2;
    /** There is no room. */
    public static final int FULL = -3;

    private static final long NOTHING = -1234567890123L;
    private static final int MOST_BYTES = 2500;
    private static final int BYTES_FED = 20;
    private static final int MOST_TOKENS = 500;
    private static final int MOST_METHODS = 10;
    private static final int MOST_PARAMS = 6;
    private static final int MOST_VARIABLES = 60;
    private static final int DEEPEST = 20;
    private static final int MOST_INPUTS = 40;
    private static final int MOST_STEPS = 20000;
    private static final int MOST_CALLS = 30;
    private static final int MOST_TOLD = 200;

    // what means() answers is one of these and a number
    private static final int METHODS_FROM = 100;
    private static final int OUT = 10;
    private static final int IN = 11;
    private static final int LABEL_MEANS = 200;

    // TYPES; FAULTY is that of an exp that is at fault
    private static final int FAULTY = -1;
    private static final int BOOLEAN = 0;
    private static final int BYTE = 1;
    private static final int CHAR = 2;
    private static final int INT = 3;
    private static final int LONG = 4;
    private static final int VOID = 5;
    private static final long GREATEST_INT = 2147483647L;
    private static final long GREATEST_LONG = 9223372036854775807L;

    // a sign's code is its place in SIGNS
    private static final String SIGNS =
        "( ) { } ; , : ? = += -= *= /= %= &= |= ^= <<= >>= >>>= || && | ^ & == != < <= > >= << >> >>> + - * / % ! ~ ++ --";
    private static final int OPEN = 0;
    private static final int CLOSE = 1;
    private static final int BLOCK = 2;
    private static final int BLOCK_END = 3;
    private static final int SEMICOLON = 4;
    private static final int COMMA = 5;
    private static final int COLON = 6;
    private static final int QUESTION = 7;
    private static final int ASSIGN = 8;
    private static final int LAST_ASSIGN = 19;
    private static final int OR_ELSE = 20;
    private static final int AND_THEN = 21;
    private static final int OR = 22;
    private static final int XOR = 23;
    private static final int AND = 24;
    private static final int SAME = 25;
    private static final int OTHER = 26;
    private static final int LESS = 27;
    private static final int AT_MOST = 28;
    private static final int MORE = 29;
    private static final int AT_LEAST = 30;
    private static final int LEFT = 31;
    private static final int RIGHT = 32;
    private static final int RIGHT_ZERO = 33;
    private static final int PLUS = 34;
    private static final int MINUS = 35;
    private static final int TIMES = 36;
    private static final int DIVIDE = 37;
    private static final int REST = 38;
    private static final int NOT = 39;
    private static final int TURN = 40;
    private static final int INCREASE = 41;
    private static final int DECREASE = 42;

    // how strong a sign binds as an operator of a chain; 0: it is none
    private static final int[] STRENGTHS = {
        0, 0, 0, 0, 0, 0, 0, 0, 0, 0, 0, 0, 0, 0, 0, 0, 0, 0, 0, 0,
        1, 2, 3, 4, 5, 6, 6, 7, 7, 7, 7, 8, 8, 8, 9, 9, 10, 10, 10, 0, 0, 0, 0};
    // the operators of += and the like, from the sign behind '=' on
    private static final int[] OPERATORS = {
        PLUS, MINUS, TIMES, DIVIDE, REST, AND, OR, XOR, LEFT, RIGHT, RIGHT_ZERO};

    // a word's code is FIRST_WORD and its place in WORDS, so a type's is FIRST_WORD and the TYPE
    private static final String WORDS =
        "boolean byte char int long void if else while do for switch case default break continue return throw try catch finally final true false";
    private static final int WORDS_COUNT = 24;
    private static final int FIRST_WORD = 50;
    private static final int VOID_WORD = 55;
    private static final int IF = 56;
    private static final int ELSE = 57;
    private static final int WHILE = 58;
    private static final int DO = 59;
    private static final int FOR = 60;
    private static final int SWITCH = 61;
    private static final int CASE = 62;
    private static final int DEFAULT = 63;
    private static final int BREAK = 64;
    private static final int CONTINUE = 65;
    private static final int RETURN = 66;
    private static final int THROW = 67;
    private static final int TRY = 68;
    private static final int CATCH = 69;
    private static final int FINALLY = 70;
    private static final int FINAL = 71;
    private static final int TRUE = 72;
    private static final int FALSE = 73;

    // the other tokens; END and WRONG stand where no token is
    private static final int NAME = 80;
    private static final int NUMBER = 81;
    private static final int LONG_NUMBER = 82;
    private static final int CHARACTER = 83;
    private static final int END = 84;
    private static final int WRONG = 85;
    private static final int NO_CODE = -1;

    private final byte[] tape = new byte[MOST_BYTES];
    private final int[] inputs = new int[MOST_INPUTS];
    private final long[] arguments = new long[MOST_PARAMS];
    private Program program = new Program();
    private Program spare = new Program();
    private final Reader reader = new Reader(spare);
    private final Judge judge = new Judge(program);
    private final Code code = new Code(program);
    private final Machine machine = new Machine(code);
    private int length;
    private int inputCount;
    private int place = NO;
    private boolean hasRun;

    /** Nothing on THE TAPE, a program of no methods, no INPUTS, arguments 0. */
    public PlainJava() {
    }

    /** Promise 2. */
    public int feed(int a, int b, int c, int d, int e) {
        if (length + BYTES_FED > MOST_BYTES) {
            return FULL;
        }
        append(a);
        append(b);
        append(c);
        append(d);
        append(e);
        return length;
    }

    private void append(int four) {
        for (int shift = 24; shift >= 0 && length < MOST_BYTES; shift -= 8) {
            tape[length] = (byte) (four >> shift);
            length++;
        }
    }

    /** Promise 3. */
    public int cut(int n) {
        if (n < 0 || n > length) {
            return BAD;
        }
        length -= n;
        return length;
    }

    /** Promise 4. */
    public int read() {
        int fault = reader.readProgram(spare, tape, length);
        length = 0;
        if (fault != 0) {
            place = reader.faultPlace();
            return -10 - fault;
        }
        Program before = program;
        program = spare;
        spare = before;
        place = NO;
        hasRun = false;
        judge.judgeProgram(program);
        if (program.error == 0) {
            code.lay(program);
        }
        return program.methods.size();
    }

    /** Promise 5. */
    public int place() {
        return place;
    }

    /** Promise 6. */
    public int judge() {
        place = program.error == 0 ? NO : program.errorPlace;
        return program.error;
    }

    /** Promise 7. */
    public int told(int what) {
        switch (what) {
            case 0: return program.tokens.count;
            case 1: return program.methods.size();
            case 2: return program.variables.size();
            case 3: return inputCount;
            default: return BAD;
        }
    }

    /** Promise 8. */
    public int token(int i, int what) {
        Tokens tokens = program.tokens;
        if (i < 0 || i >= tokens.count) {
            return BAD;
        }
        switch (what) {
            case 0: return tokens.place[i];
            case 1: return tokens.size[i];
            case 2: return tokens.sort(i);
            default: return BAD;
        }
    }

    /** Promise 9. */
    public int method(int k, int what) {
        if (k < 0 || k >= program.methods.size()) {
            return BAD;
        }
        Method m = program.methods.get(k);
        switch (what) {
            case 0: return m.name;
            case 1: return m.type;
            case 2: return m.params;
            default: return what >= 10 && what - 10 < m.params ? m.paramTypes[what - 10] : BAD;
        }
    }

    /** Promise 10. */
    public int variable(int k, int what) {
        if (k < 0 || k >= program.variables.size()) {
            return BAD;
        }
        Variable v = program.variables.get(k);
        switch (what) {
            case 0: return v.name;
            case 1: return v.type;
            case 2: return v.isFinal ? 1 : 0;
            case 3: return v.method;
            default: return BAD;
        }
    }

    /** Promise 11. */
    public int means(int i) {
        Tokens tokens = program.tokens;
        if (i < 0 || i >= tokens.count || tokens.code[i] != NAME) {
            return BAD;
        }
        return program.error != 0 ? NO : tokens.meaning[i];
    }

    /** Promise 12. */
    public int type(int i, int k) {
        if (program.error != 0) {
            return NO;
        }
        Exp e = program.expAt(i, k);
        return e == null ? BAD : e.type;
    }

    /** Promise 13. */
    public long constant(int i, int k) {
        if (program.error != 0) {
            return NOTHING;
        }
        Exp e = program.expAt(i, k);
        return e == null || !e.isConstant ? NOTHING : e.value;
    }

    /** Promise 14. */
    public int ends(int i) {
        if (program.error != 0) {
            return NO;
        }
        Statement s = program.statementAt(i);
        if (s == null) {
            return BAD;
        }
        return s.ends ? 1 : 0;
    }

    /** Promise 15. */
    public int assigned(int i, int k) {
        if (program.error != 0) {
            return NO;
        }
        Statement s = program.statementAt(i);
        if (s == null || k < 0 || k >= program.variables.size() || !has(s.known, k)) {
            return BAD;
        }
        return has(s.before, k) ? 1 : 0;
    }

    /** Promise 16. */
    public int argument(int i, long v) {
        if (i < 0 || i >= MOST_PARAMS) {
            return BAD;
        }
        arguments[i] = v;
        return 1;
    }

    /** Promise 17. */
    public int input(int v) {
        if (inputCount >= MOST_INPUTS) {
            return FULL;
        }
        inputs[inputCount] = v;
        inputCount++;
        return inputCount;
    }

    /** Promise 18. */
    public int drain() {
        int were = inputCount;
        inputCount = 0;
        return were;
    }

    /** Promise 19. */
    public int run(int k, int limit) {
        if (k < 0 || k >= program.methods.size() || limit < 1 || limit > MOST_STEPS) {
            return BAD;
        }
        if (program.error != 0) {
            return NO;
        }
        hasRun = true;
        machine.prepare(inputs, inputCount);
        return machine.perform(program.methods.get(k), arguments, limit);
    }

    /** Promise 20. */
    public long ran(int what) {
        return hasRun ? machine.report(what) : NOTHING;
    }

    // ---- what several of the classes below need

    private static boolean has(long set, int number) {
        return (set >>> number & 1L) != 0;
    }

    private static long bit(int number) {
        return 1L << number;
    }

    private static boolean isNumber(int type) {
        return type >= BYTE && type <= LONG;
    }

    private static boolean sameOrWidens(int from, int to) {
        boolean isSmall = from == BYTE || from == CHAR;
        return from == to || isSmall && to == INT || (isSmall || from == INT) && to == LONG;
    }

    private static int strength(int sign) {
        return sign >= 0 && sign < STRENGTHS.length ? STRENGTHS[sign] : 0;
    }

    /** The operator of an assignment's sign; ASSIGN has none and stays. */
    private static int operatorOf(int sign) {
        int i = sign - ASSIGN - 1;
        return i >= 0 && i < OPERATORS.length ? OPERATORS[i] : sign;
    }

    private static boolean isDivision(int sign) {
        return sign == DIVIDE || sign == REST;
    }

    /** Every value is kept as the long of the same number, so only what narrows has to change it. */
    private static long narrowed(int type, long v) {
        switch (type) {
            case BYTE: return (byte) v;
            case CHAR: return (char) v;
            case INT: return (int) v;
            default: return v;
        }
    }

    /** What an operator makes of two values in a TYPE; who calls has looked for / and % by 0. */
    private static long worked(int sign, int type, long a, long b) {
        switch (sign) {
            case PLUS: return narrowed(type, a + b);
            case MINUS: return narrowed(type, a - b);
            case TIMES: return narrowed(type, a * b);
            case DIVIDE: return b == 0 ? 0 : narrowed(type, a / b);
            case REST: return b == 0 ? 0 : narrowed(type, a % b);
            case AND: return a & b;
            case OR: return a | b;
            case XOR: return a ^ b;
            case LEFT: case RIGHT: case RIGHT_ZERO: return shifted(sign, type, a, b);
            default: return compared(sign, a, b) ? 1 : 0;
        }
    }

    private static long shifted(int sign, int type, long a, long b) {
        if (type == LONG) {
            int by = (int) (b & 63);
            return sign == LEFT ? a << by : sign == RIGHT ? a >> by : a >>> by;
        }
        int by = (int) (b & 31);
        int from = (int) a;
        return sign == LEFT ? from << by : sign == RIGHT ? from >> by : from >>> by;
    }

    private static boolean compared(int sign, long a, long b) {
        switch (sign) {
            case SAME: return a == b;
            case OTHER: return a != b;
            case LESS: return a < b;
            case AT_MOST: return a <= b;
            case MORE: return a > b;
            default: return a >= b;
        }
    }

    private static long workedAlone(int sign, int type, long a) {
        switch (sign) {
            case MINUS: return narrowed(type, -a);
            case TURN: return ~a;
            case NOT: return a ^ 1;
            default: return a;
        }
    }

    /** A text, cut into its tokens up to the first place where none begins. */
    private static final class Tokens {
        private static final int ROOM = MOST_TOKENS + 3;
        private static final int LONGEST_NAME = 10;
        private static final int LONGEST_NUMBER = 19;

        final int[] place = new int[ROOM];
        final int[] size = new int[ROOM];
        final int[] code = new int[ROOM];
        final int[] meaning = new int[ROOM];
        /** Of a NAME a key that no other NAME has, of a NUMBER or CHARACTER its value. */
        final long[] worth = new long[ROOM];
        int count;
        private final long[] words = new long[WORDS_COUNT];
        private byte[] text = new byte[0];
        private int length;

        Tokens() {
            int word = 0;
            for (int i = 0; i < WORDS.length(); i++) {
                char c = WORDS.charAt(i);
                if (c == ' ') {
                    word++;
                } else if (word < WORDS_COUNT) {
                    words[word] = longerKey(words[word], c);
                }
            }
        }

        /** Ten letters and digits, six bits each: a NAME's key holds all of it. */
        static long longerKey(long key, int c) {
            int digit = c >= 'a' ? c - 'a' + 37 : c >= 'A' ? c - 'A' + 11 : c - '0' + 1;
            return key << 6 | digit;
        }

        static long keyOf(String name) {
            long key = 0;
            for (int i = 0; i < name.length(); i++) {
                key = longerKey(key, name.charAt(i));
            }
            return key;
        }

        int sort(int i) {
            int c = code[i];
            if (c == NAME) {
                return 1;
            }
            if (c == NUMBER || c == LONG_NUMBER) {
                return 2;
            }
            if (c == CHARACTER) {
                return 3;
            }
            return c >= FIRST_WORD ? 4 : 5;
        }

        /** Cuts at most one token more than there may be: the reader has to see that one. */
        void cutText(byte[] bytes, int bytesLength) {
            text = bytes;
            length = Math.min(bytesLength, bytes.length);
            count = 0;
            boolean whole = true;
            int from = behindBlanks(0);
            while (whole && from < length && count <= MOST_TOKENS) {
                int bytesCut = cutOne(from);
                whole = bytesCut > 0;
                if (whole) {
                    place[count] = from;
                    size[count] = bytesCut;
                    meaning[count] = NO;
                    count++;
                    from = behindBlanks(from + bytesCut);
                }
            }
            place[count] = from;
            code[count] = whole ? END : WRONG;
        }

        private int byteAt(int i) {
            return i >= 0 && i < length ? text[i] & 255 : -1;
        }

        private int behindBlanks(int from) {
            int i = from;
            boolean remark = false;
            while (i < length) {
                int c = byteAt(i);
                if (c == 10) {
                    remark = false;
                } else if (!remark && c == '/' && byteAt(i + 1) == '/') {
                    remark = true;
                } else if (!remark && c != 32 && c != 9 && c != 13) {
                    return i;
                }
                i++;
            }
            return length;
        }

        /** How many bytes the token has; 0: none begins there, or it is not whole. */
        private int cutOne(int from) {
            int c = byteAt(from);
            if (isLetter(c)) {
                return cutName(from);
            }
            if (isDigit(c)) {
                return cutNumber(from);
            }
            return c == '\'' ? cutCharacter(from) : cutSign(from);
        }

        private static boolean isLetter(int c) {
            return c >= 'a' && c <= 'z' || c >= 'A' && c <= 'Z';
        }

        private static boolean isDigit(int c) {
            return c >= '0' && c <= '9';
        }

        private int cutName(int from) {
            int end = from;
            long key = 0;
            while (end < length && (isLetter(byteAt(end)) || isDigit(byteAt(end)))) {
                key = longerKey(key, byteAt(end));
                end++;
            }
            if (end - from > LONGEST_NAME) {
                return 0;
            }
            code[count] = NAME;
            worth[count] = key;
            for (int i = 0; i < WORDS_COUNT; i++) {
                if (words[i] == key) {
                    code[count] = FIRST_WORD + i;
                }
            }
            return end - from;
        }

        /** Nineteen digits may pass the greatest long: the value is below 0 then. */
        private int cutNumber(int from) {
            int end = from;
            long value = 0;
            while (end < length && isDigit(byteAt(end))) {
                value = value * 10 + (byteAt(end) - '0');
                end++;
            }
            if (end - from > LONGEST_NUMBER) {
                return 0;
            }
            worth[count] = value;
            code[count] = NUMBER;
            if (byteAt(end) == 'L') {
                code[count] = LONG_NUMBER;
                end++;
            }
            return end - from;
        }

        private int cutCharacter(int from) {
            int c = byteAt(from + 1);
            if (c < 32 || c > 126 || c == '\'' || c == '\\' || byteAt(from + 2) != '\'') {
                return 0;
            }
            code[count] = CHARACTER;
            worth[count] = c;
            return 3;
        }

        private int cutSign(int from) {
            int longest = 0;
            int sign = 0;
            int start = 0;
            for (int i = 0; i <= SIGNS.length(); i++) {
                if (i == SIGNS.length() || SIGNS.charAt(i) == ' ') {
                    if (i - start > longest && standsThere(start, i, from)) {
                        longest = i - start;
                        code[count] = sign;
                    }
                    start = i + 1;
                    sign++;
                }
            }
            return longest;
        }

        private boolean standsThere(int start, int end, int from) {
            for (int i = start; i < end; i++) {
                if (SIGNS.charAt(i) != byteAt(from + i - start)) {
                    return false;
                }
            }
            return true;
        }
    }

    /**
     * An exp of the tree, or a MARK between the exps: where && || and a choice fork, where the value
     * of a variable is taken for += and the like, where a variable's exp goes into it. A program's
     * list has them in the order in which they are worked out, so every pass over exps is a loop:
     * a chain of 250 operands makes no call deeper.
     */
    private static final class Exp {
        static final int NUMBER_EXP = 0;
        static final int LITERAL = 1;
        static final int NAME_EXP = 2;
        static final int PAREN = 3;
        static final int ALONE = 4;
        static final int CAST = 5;
        static final int COUNT = 6;
        static final int CHAIN = 7;
        static final int CHOICE = 8;
        static final int ASSIGNMENT = 9;
        static final int CALL = 10;
        static final int MARK_FORK = 11;
        static final int MARK_THEN = 12;
        static final int MARK_ELSE = 13;
        static final int MARK_TAKE = 14;
        static final int MARK_STORE = 15;

        final int kind;
        final int sign;
        final int first;
        /** The place in the program's list of what is worked out first for it. */
        final int start;
        int last;
        int number;
        /** The token of the NAME of its variable. */
        int name;
        /** The number of its variable or method; of a NUMBER 1 if it stands right behind a unary -. */
        int link = -1;
        int type = FAULTY;
        /** The TYPE in which an operator works; of a cast the one it casts to. */
        int work;
        boolean isConstant;
        long value;
        Exp a;
        Exp b;
        Exp c;
        Exp next;
        Exp mark;
        /** Where its jump stands in the code. */
        int address;

        Exp(int kind, int sign, int first, int start) {
            this.kind = kind;
            this.sign = sign;
            this.first = first;
            this.start = start;
            name = first;
        }

        /** Whether it can be an S, or one of for's exps. */
        boolean acts() {
            return kind == ASSIGNMENT || kind == COUNT || kind == CALL;
        }
    }

    /**
     * An S or told of the tree; its kind is the code of the sign or word that tells it. Some are
     * parts only: a BODY (a block of a method, try, catch, finally), a case or default, and what
     * stands in the ( ) of for.
     */
    private static final class Statement {
        static final int LABEL = COLON;
        static final int EMPTY = SEMICOLON;
        static final int EXP = 90;
        static final int TOLD = 91;
        static final int BODY = 92;
        static final int FOR_TOLD = 93;
        static final int FOR_EXP = 94;

        final int kind;
        final int first;
        final int level;
        final Statement parent;
        /** The variables known ahead of it. */
        final long known;
        Statement next;
        /** The S within it, or the first of the row; of try its block. */
        Statement body;
        /** Else, catch, or what for begins with. */
        Statement other;
        /** Finally, or what for does behind each round. */
        Statement last;
        Exp exp;
        /** The variable of a told or catch, the token of a NAME: and the like, the method of return. */
        int link = -1;
        /** The one that a break or continue leads to. */
        Statement target;
        boolean ends;
        boolean broken;
        boolean continued;
        // SURELY assigned: ahead of it, behind it, where its breaks and continues come from
        long before;
        long behind;
        long breaks = -1L;
        long continues = -1L;
        /** The code's place where a continue goes on, or a case, catch, finally begins. */
        int entry;
        /** The code's place behind it. */
        int exit;

        Statement(int kind, int first, int level, Statement parent, long known) {
            this.kind = kind;
            this.first = first;
            this.level = level;
            this.parent = parent;
            this.known = known;
        }

        boolean isLoop() {
            return kind == WHILE || kind == DO || kind == FOR;
        }

        boolean isPart() {
            return kind == CASE || kind == DEFAULT || kind == BODY || kind == FOR_TOLD || kind == FOR_EXP;
        }

        /** Whether what leaves it has to go through a finally. */
        boolean hasFinallyAhead() {
            return kind == BODY && parent != null && parent.last != null && parent.last != this;
        }

        boolean isCaught() {
            return kind == BODY && parent != null && parent.other != null && parent.body == this;
        }

        boolean isAlways(int value) {
            if (exp == null) {
                return value == 1;
            }
            return exp.isConstant && exp.value == value;
        }
    }

    private static final class Method {
        final int name;
        final long key;
        final int type;
        final int[] paramTypes = new int[MOST_PARAMS];
        final int firstVariable;
        int params;
        Statement body = new Statement(Statement.BODY, 0, 0, null, 0);

        Method(int name, long key, int type, int firstVariable) {
            this.name = name;
            this.key = key;
            this.type = type;
            this.firstVariable = firstVariable;
        }

        void addParam(int paramType) {
            if (params < MOST_PARAMS) {
                paramTypes[params] = paramType;
                params++;
            }
        }

        boolean hasSameParams(Method m) {
            if (params != m.params) {
                return false;
            }
            for (int i = 0; i < params; i++) {
                if (paramTypes[i] != m.paramTypes[i]) {
                    return false;
                }
            }
            return true;
        }

        /** Whether all its params are the same as, or WIDEN to, those of a method with as many. */
        boolean isAsNarrowAs(Method m) {
            for (int i = 0; i < params; i++) {
                if (!sameOrWidens(paramTypes[i], m.paramTypes[i])) {
                    return false;
                }
            }
            return true;
        }

        boolean takes(long name, int count, Exp firstArgument) {
            if (key != name || params != count) {
                return false;
            }
            Exp e = firstArgument;
            for (int i = 0; i < params && e != null; i++) {
                if (!sameOrWidens(e.type, paramTypes[i])) {
                    return false;
                }
                e = e.next;
            }
            return true;
        }
    }

    private static final class Variable {
        final int name;
        final int type;
        final boolean isFinal;
        final int method;
        /** Whether one of its NAME is known where it is told. */
        boolean clashes;
        boolean isConstant;
        long value;

        Variable(int name, int type, boolean isFinal, int method) {
            this.name = name;
            this.type = type;
            this.isFinal = isFinal;
            this.method = method;
        }
    }

    /** What a text has become, with the ERROR that it has. */
    private static final class Program {
        final Tokens tokens = new Tokens();
        final ArrayList<Method> methods = new ArrayList<>();
        final ArrayList<Variable> variables = new ArrayList<>();
        final ArrayList<Exp> exps = new ArrayList<>();
        final ArrayList<Statement> statements = new ArrayList<>();
        private final Method out = new Method(-1, Tokens.keyOf("out"), VOID, 0);
        private final Method in = new Method(-1, Tokens.keyOf("in"), INT, 0);
        int error;
        int errorPlace;

        Program() {
            out.addParam(LONG);
        }

        void clear() {
            methods.clear();
            variables.clear();
            exps.clear();
            statements.clear();
            error = 0;
            errorPlace = 0;
        }

        /** Of all ERRORS told the one with the least place stays, of one place the least. */
        void tell(int number, int token) {
            int at = tokens.place[token];
            if (error == 0 || at < errorPlace || at == errorPlace && number < error) {
                error = number;
                errorPlace = at;
            }
        }

        /** The method of a number; null: there is none such. */
        Method methodOf(int number) {
            if (number == OUT) {
                return out;
            }
            if (number == IN) {
                return in;
            }
            return number >= 0 && number < methods.size() ? methods.get(number) : null;
        }

        Exp expAt(int i, int k) {
            for (int n = 0; n < exps.size(); n++) {
                Exp e = exps.get(n);
                if (e.kind <= Exp.CALL && e.first == i && e.last == k) {
                    return e;
                }
            }
            return null;
        }

        Statement statementAt(int i) {
            for (int n = 0; n < statements.size(); n++) {
                Statement s = statements.get(n);
                if (s.first == i && !s.isPart()) {
                    return s;
                }
            }
            return null;
        }
    }

    /**
     * Reads a text from the left to the right, up to the first FAULT. Behind a FAULT no code is seen
     * any more, so all that still waits ends at once.
     */
    private static final class Reader {
        private Program program;
        private Tokens tokens;
        private int at;
        private int fault;
        private int place;
        private long known;
        private Statement around;

        Reader(Program into) {
            program = into;
            tokens = into.tokens;
        }

        int readProgram(Program into, byte[] text, int length) {
            program = into;
            tokens = into.tokens;
            program.clear();
            tokens.cutText(text, length);
            at = 0;
            fault = 0;
            for (int i = 0; i <= MOST_METHODS && fault == 0 && code() != END; i++) {
                readMethod();
            }
            return fault;
        }

        int faultPlace() {
            return place;
        }

        private int code() {
            return fault == 0 ? tokens.code[at] : NO_CODE;
        }

        private int codeBehind() {
            return fault == 0 && at < MOST_TOKENS ? tokens.code[at + 1] : NO_CODE;
        }

        private void raise(int number) {
            if (fault == 0) {
                fault = tokens.code[at] == WRONG ? 1 : number;
                place = tokens.place[at];
            }
        }

        private void accept() {
            if (at >= MOST_TOKENS) {
                raise(3);
            } else if (fault == 0) {
                at++;
            }
        }

        private void expect(int wanted) {
            if (code() == wanted) {
                accept();
            } else {
                raise(2);
            }
        }

        private boolean takes(int wanted) {
            if (code() != wanted) {
                return false;
            }
            accept();
            return true;
        }

        private boolean isTooDeep(int depth) {
            if (depth > DEEPEST) {
                raise(3);
            }
            return depth > DEEPEST;
        }

        private static boolean isType(int code) {
            return code >= FIRST_WORD && code < VOID_WORD;
        }

        private static boolean isAssign(int code) {
            return code >= ASSIGN && code <= LAST_ASSIGN;
        }

        // ---- methods and variables

        private void readMethod() {
            int type = code() - FIRST_WORD;
            if (!isType(code()) && code() != VOID_WORD) {
                raise(2);
            }
            accept();
            int number = program.methods.size();
            if (code() != NAME) {
                raise(2);
            } else if (number >= MOST_METHODS) {
                raise(3);
            }
            if (fault != 0) {
                return;
            }
            Method m = new Method(at, tokens.worth[at], type, program.variables.size());
            program.methods.add(m);
            tokens.meaning[at] = METHODS_FROM + number;
            accept();
            known = 0;
            around = null;
            readParams(m);
            m.body = readBody(0);
        }

        private void readParams(Method m) {
            expect(OPEN);
            if (code() != CLOSE) {
                boolean more = true;
                for (int i = 0; more && i <= MOST_PARAMS; i++) {
                    boolean isFinal = takes(FINAL);
                    int type = readType();
                    int number = declare(type, isFinal, m.params < MOST_PARAMS);
                    know(number);
                    m.addParam(type);
                    more = takes(COMMA);
                }
            }
            expect(CLOSE);
        }

        private int readType() {
            int type = code() - FIRST_WORD;
            if (!isType(code())) {
                raise(2);
                return INT;
            }
            accept();
            return type;
        }

        /** Tells a variable at its NAME: its number, or -1. Who calls says from where on it is known. */
        private int declare(int type, boolean isFinal, boolean hasRoom) {
            int number = program.variables.size();
            if (code() != NAME) {
                raise(2);
            } else if (!hasRoom || number >= MOST_VARIABLES) {
                raise(3);
            }
            if (fault != 0) {
                return -1;
            }
            Variable v = new Variable(at, type, isFinal, program.methods.size() - 1);
            v.clashes = lookUp(tokens.worth[at]) >= 0;
            program.variables.add(v);
            tokens.meaning[at] = number;
            accept();
            return number;
        }

        private void know(int number) {
            if (number >= 0) {
                known |= bit(number);
            }
        }

        private int lookUp(long key) {
            for (int i = program.variables.size() - 1; i >= 0; i--) {
                if (has(known, i) && tokens.worth[program.variables.get(i).name] == key) {
                    return i;
                }
            }
            return -1;
        }

        /** What the NAME at a token means as a variable, -1 if nothing. */
        private int meant(int name) {
            int number = lookUp(tokens.worth[name]);
            tokens.meaning[name] = number;
            return number;
        }

        private Statement readVariable(int kind, int depth) {
            Statement s = begin(kind, depth);
            boolean isFinal = takes(FINAL);
            int type = readType();
            s.link = declare(type, isFinal, true);
            know(s.link);
            if (isFinal || code() == ASSIGN) {
                expect(ASSIGN);
                s.exp = readExp(depth);
                Exp store = new Exp(Exp.MARK_STORE, ASSIGN, s.first, s.exp.start);
                store.link = s.link;
                store.a = s.exp;
                put(store);
            }
            return s;
        }

        // ---- S

        private Statement begin(int kind, int depth) {
            Statement s = new Statement(kind, at, depth, around, known);
            program.statements.add(s);
            return s;
        }

        /** A block that is no S of its own: of a method, try, catch, finally. */
        private Statement readBody(int depth) {
            Statement s = begin(Statement.BODY, depth);
            readBlock(s, depth);
            return s;
        }

        private void readBlock(Statement s, int depth) {
            Statement outer = around;
            long knownOutside = known;
            around = s;
            expect(BLOCK);
            s.body = readRow(depth + 1, false);
            expect(BLOCK_END);
            known = knownOutside;
            around = outer;
        }

        private Statement readRow(int depth, boolean isSwitch) {
            Statement first = null;
            Statement last = null;
            // whatever stands behind a { that is too deep is too much, a } as well
            isTooDeep(depth);
            for (int i = 0; i <= MOST_TOKENS && fault == 0 && code() != BLOCK_END; i++) {
                Statement s = readRowPart(depth, isSwitch, first == null);
                if (last == null) {
                    first = s;
                } else {
                    last.next = s;
                }
                last = s;
            }
            return first;
        }

        private Statement readRowPart(int depth, boolean isSwitch, boolean isFirst) {
            if (isSwitch && (code() == CASE || code() == DEFAULT)) {
                return readCase(depth);
            }
            if (isSwitch && isFirst) {
                raise(2);
            }
            if (code() == FINAL || isType(code())) {
                Statement s = readVariable(Statement.TOLD, depth);
                expect(SEMICOLON);
                return s;
            }
            return readStatement(depth);
        }

        private Statement readCase(int depth) {
            Statement s = begin(code(), depth);
            accept();
            if (s.kind == CASE) {
                s.exp = readExp(depth);
            }
            expect(COLON);
            return s;
        }

        private Statement readInner(Statement s, int depth) {
            Statement outer = around;
            around = s;
            Statement inner = readStatement(depth + 1);
            around = outer;
            return inner;
        }

        private Statement readStatement(int depth) {
            isTooDeep(depth);
            switch (code()) {
                case IF: return readIf(depth);
                case WHILE: return readWhile(depth);
                case DO: return readDo(depth);
                case FOR: return readFor(depth);
                case SWITCH: return readSwitch(depth);
                case TRY: return readTry(depth);
                case BLOCK: case SEMICOLON: case BREAK: case CONTINUE: case RETURN: case THROW:
                    return readSimple(depth);
                default:
                    return code() == NAME && codeBehind() == COLON ? readLabel(depth) : readExpStatement(depth);
            }
        }

        private Statement readSimple(int depth) {
            Statement s = begin(code(), depth);
            if (s.kind == BLOCK) {
                readBlock(s, depth);
                return s;
            }
            accept();
            if (s.kind == Statement.EMPTY) {
                return s;
            }
            if (s.kind == THROW || s.kind == RETURN && code() != SEMICOLON) {
                s.exp = readExp(depth);
            }
            if (s.kind == RETURN) {
                s.link = program.methods.size() - 1;
            } else if (s.kind != THROW && code() == NAME) {
                s.link = at;
                tokens.meaning[at] = LABEL_MEANS;
                accept();
            }
            expect(SEMICOLON);
            return s;
        }

        private Statement readLabel(int depth) {
            Statement s = begin(Statement.LABEL, depth);
            s.link = at;
            tokens.meaning[at] = LABEL_MEANS;
            accept();
            expect(COLON);
            s.body = readInner(s, depth);
            return s;
        }

        private Statement readExpStatement(int depth) {
            Statement s = begin(Statement.EXP, depth);
            s.exp = readExp(depth);
            expect(SEMICOLON);
            return s;
        }

        private void readCondition(Statement s, int depth) {
            expect(OPEN);
            s.exp = readExp(depth);
            expect(CLOSE);
        }

        private Statement readIf(int depth) {
            Statement s = begin(IF, depth);
            accept();
            readCondition(s, depth);
            s.body = readInner(s, depth);
            if (takes(ELSE)) {
                s.other = readInner(s, depth);
            }
            return s;
        }

        private Statement readWhile(int depth) {
            Statement s = begin(WHILE, depth);
            accept();
            readCondition(s, depth);
            s.body = readInner(s, depth);
            return s;
        }

        private Statement readDo(int depth) {
            Statement s = begin(DO, depth);
            accept();
            s.body = readInner(s, depth);
            expect(WHILE);
            readCondition(s, depth);
            expect(SEMICOLON);
            return s;
        }

        private Statement readFor(int depth) {
            Statement s = begin(FOR, depth);
            Statement outer = around;
            long knownOutside = known;
            accept();
            expect(OPEN);
            around = s;
            if (code() == FINAL || isType(code())) {
                s.other = readVariable(Statement.FOR_TOLD, depth);
            } else if (code() != SEMICOLON) {
                s.other = readForExps(depth);
            }
            expect(SEMICOLON);
            if (code() != SEMICOLON) {
                s.exp = readExp(depth);
            }
            expect(SEMICOLON);
            if (code() != CLOSE) {
                s.last = readForExps(depth);
            }
            expect(CLOSE);
            s.body = readInner(s, depth);
            known = knownOutside;
            around = outer;
            return s;
        }

        private Statement readForExps(int depth) {
            Statement first = begin(Statement.FOR_EXP, depth);
            first.exp = readExp(depth);
            Statement last = first;
            for (int i = 0; i <= MOST_TOKENS && takes(COMMA); i++) {
                last.next = begin(Statement.FOR_EXP, depth);
                last = last.next;
                last.exp = readExp(depth);
            }
            return first;
        }

        private Statement readSwitch(int depth) {
            Statement s = begin(SWITCH, depth);
            Statement outer = around;
            long knownOutside = known;
            accept();
            readCondition(s, depth);
            around = s;
            expect(BLOCK);
            s.body = readRow(depth + 1, true);
            expect(BLOCK_END);
            known = knownOutside;
            around = outer;
            return s;
        }

        private Statement readTry(int depth) {
            Statement s = begin(TRY, depth);
            Statement outer = around;
            long knownOutside = known;
            accept();
            around = s;
            s.body = readBody(depth);
            if (code() != CATCH && code() != FINALLY) {
                raise(2);
            }
            if (takes(CATCH)) {
                expect(OPEN);
                s.link = declare(INT, false, true);
                know(s.link);
                expect(CLOSE);
                s.other = readBody(depth);
                known = knownOutside;
            }
            if (takes(FINALLY)) {
                s.last = readBody(depth);
            }
            around = outer;
            return s;
        }

        // ---- exps

        /** Puts an exp that has been read whole behind all that are worked out ahead of it. */
        private Exp put(Exp e) {
            e.number = program.exps.size();
            e.last = at - 1;
            program.exps.add(e);
            return e;
        }

        private Exp opened(int kind, int sign) {
            return new Exp(kind, sign, at, program.exps.size());
        }

        private Exp putMark(int kind, int sign) {
            return put(opened(kind, sign));
        }

        private Exp readExp(int depth) {
            if (isTooDeep(depth)) {
                return opened(Exp.LITERAL, NO_CODE);
            }
            return code() == NAME && isAssign(codeBehind()) ? readAssignment(depth) : readChoice(depth);
        }

        private Exp readAssignment(int depth) {
            int sign = codeBehind();
            Exp e = opened(Exp.ASSIGNMENT, operatorOf(sign));
            e.link = meant(at);
            if (sign != ASSIGN) {
                e.mark = putMark(Exp.MARK_TAKE, sign);
                e.mark.link = e.link;
            }
            accept();
            accept();
            e.b = readExp(depth + 1);
            return put(e);
        }

        private Exp readChoice(int depth) {
            int first = at;
            int start = program.exps.size();
            Exp condition = readChain(depth);
            if (code() != QUESTION) {
                return condition;
            }
            Exp e = new Exp(Exp.CHOICE, QUESTION, first, start);
            e.a = condition;
            Exp then = putMark(Exp.MARK_THEN, QUESTION);
            accept();
            e.b = readExp(depth + 1);
            e.mark = putMark(Exp.MARK_ELSE, QUESTION);
            e.mark.mark = then;
            expect(COLON);
            e.c = isTooDeep(depth + 1) ? opened(Exp.LITERAL, NO_CODE) : readChoice(depth + 1);
            return put(e);
        }

        private Exp readChain(int depth) {
            Exp right = readOperand(depth);
            Exp waiting = null;
            for (int i = 0; i <= MOST_TOKENS && strength(code()) > 0; i++) {
                int sign = code();
                while (waiting != null && strength(waiting.sign) >= strength(sign)) {
                    Exp below = waiting.next;
                    right = closed(waiting, right);
                    waiting = below;
                }
                waiting = waitingFor(sign, right, waiting);
                accept();
                right = readOperand(depth);
            }
            while (waiting != null) {
                Exp below = waiting.next;
                right = closed(waiting, right);
                waiting = below;
            }
            return right;
        }

        /** An operator whose right operand is still to come; next is the one that waits below it. */
        private Exp waitingFor(int sign, Exp left, Exp below) {
            Exp e = new Exp(Exp.CHAIN, sign, left.first, left.start);
            e.a = left;
            e.next = below;
            if (sign == AND_THEN || sign == OR_ELSE) {
                e.mark = putMark(Exp.MARK_FORK, sign);
            }
            return e;
        }

        private Exp closed(Exp e, Exp right) {
            e.b = right;
            e.next = null;
            return put(e);
        }

        private Exp readOperand(int depth) {
            switch (code()) {
                case PLUS: case MINUS: case NOT: case TURN: return readAlone(depth);
                case INCREASE: case DECREASE: return readCountAhead();
                case OPEN: return readBehindOpen(depth);
                case NAME: return readName(depth);
                case NUMBER: case LONG_NUMBER: case CHARACTER: case TRUE: case FALSE: return readLiteral();
                default:
                    raise(2);
                    return opened(Exp.LITERAL, NO_CODE);
            }
        }

        private Exp readInnerOperand(int depth) {
            return isTooDeep(depth) ? opened(Exp.LITERAL, NO_CODE) : readOperand(depth);
        }

        private Exp readAlone(int depth) {
            Exp e = opened(Exp.ALONE, code());
            accept();
            e.a = readInnerOperand(depth + 1);
            if (e.sign == MINUS && e.a.kind == Exp.NUMBER_EXP) {
                e.a.link = 1;
            }
            return put(e);
        }

        private Exp readCountAhead() {
            Exp e = opened(Exp.COUNT, code());
            accept();
            e.name = at;
            e.link = code() == NAME ? meant(at) : -1;
            expect(NAME);
            return put(e);
        }

        private Exp readBehindOpen(int depth) {
            int first = at;
            int start = program.exps.size();
            accept();
            if (isType(code())) {
                Exp cast = new Exp(Exp.CAST, OPEN, first, start);
                cast.work = readType();
                expect(CLOSE);
                cast.a = readInnerOperand(depth + 1);
                return put(cast);
            }
            Exp paren = new Exp(Exp.PAREN, OPEN, first, start);
            paren.a = readExp(depth + 1);
            expect(CLOSE);
            return put(paren);
        }

        private Exp readName(int depth) {
            int behind = codeBehind();
            if (behind == OPEN) {
                return readCall(depth);
            }
            boolean counts = behind == INCREASE || behind == DECREASE;
            Exp e = opened(counts ? Exp.COUNT : Exp.NAME_EXP, counts ? behind : NO_CODE);
            e.link = meant(at);
            accept();
            if (counts) {
                accept();
            }
            return put(e);
        }

        private Exp readCall(int depth) {
            Exp e = opened(Exp.CALL, OPEN);
            accept();
            accept();
            // as behind a {: also a ) at once is too much there
            if (!isTooDeep(depth + 1) && code() != CLOSE) {
                e.a = readExp(depth + 1);
                Exp latest = e.a;
                for (int i = 0; i <= MOST_TOKENS && takes(COMMA); i++) {
                    latest.next = readExp(depth + 1);
                    latest = latest.next;
                }
            }
            expect(CLOSE);
            return put(e);
        }

        private Exp readLiteral() {
            boolean isNumber = code() == NUMBER || code() == LONG_NUMBER;
            Exp e = opened(isNumber ? Exp.NUMBER_EXP : Exp.LITERAL, code());
            e.isConstant = true;
            e.value = code() == TRUE ? 1 : code() == FALSE ? 0 : tokens.worth[at];
            e.type = code() == CHARACTER ? CHAR : isNumber ? FAULTY : BOOLEAN;
            accept();
            return put(e);
        }
    }

    /** Tells the ERRORS of a program: 1 to 12 itself, the others by what flows. */
    private static final class Judge {
        private final Flow flow;
        private Program program;

        Judge(Program judged) {
            program = judged;
            flow = new Flow(judged);
        }

        void judgeProgram(Program judged) {
            program = judged;
            for (int k = 0; k < program.methods.size(); k++) {
                judgeMethod(k);
            }
            for (int k = 0; k < program.variables.size(); k++) {
                if (program.variables.get(k).clashes) {
                    program.tell(2, program.variables.get(k).name);
                }
            }
            for (int i = 0; i < program.exps.size(); i++) {
                judgeExp(program.exps.get(i));
            }
            for (int i = 0; i < program.statements.size(); i++) {
                judgeStatement(program.statements.get(i));
            }
            if (program.error == 0) {
                flow.reachAll(program);
            }
            if (program.error == 0) {
                flow.assignAll(program);
            }
        }

        private void judgeMethod(int k) {
            Method m = program.methods.get(k);
            for (int i = 0; i <= IN; i++) {
                Method before = i < k || i >= OUT ? program.methodOf(i) : null;
                if (before != null && before.key == m.key && before.hasSameParams(m)) {
                    program.tell(1, m.name);
                }
            }
        }

        private Variable variableOf(Exp e) {
            return e.link >= 0 && e.link < program.variables.size() ? program.variables.get(e.link) : null;
        }

        private static boolean isFaulty(Exp e) {
            return e == null || e.type == FAULTY;
        }

        // ---- exps

        private void judgeExp(Exp e) {
            switch (e.kind) {
                case Exp.NUMBER_EXP: judgeNumber(e); break;
                case Exp.NAME_EXP: judgeName(e); break;
                case Exp.PAREN: case Exp.ALONE: case Exp.CAST: judgeOfOne(e); break;
                case Exp.COUNT: judgeCount(e); break;
                case Exp.CHAIN: judgeChain(e); break;
                case Exp.CHOICE: judgeChoice(e); break;
                case Exp.ASSIGNMENT: judgeAssignment(e); break;
                case Exp.CALL: judgeCall(e); break;
                case Exp.MARK_STORE: judgeStore(e); break;
                default: break;
            }
        }

        private void judgeNumber(Exp e) {
            boolean isLong = e.sign == LONG_NUMBER;
            long greatest = isLong ? GREATEST_LONG : GREATEST_INT;
            boolean isOneMore = e.value == greatest + 1 && e.link == 1;
            if ((e.value < 0 || e.value > greatest) && !isOneMore) {
                program.tell(4, e.first);
                return;
            }
            e.type = isLong ? LONG : INT;
            e.value = narrowed(e.type, e.value);
        }

        private void judgeName(Exp e) {
            Variable v = variableOf(e);
            if (v == null) {
                program.tell(3, e.first);
                return;
            }
            e.type = v.type;
            if (v.isConstant) {
                e.isConstant = true;
                e.value = v.value;
            }
        }

        private void judgeOfOne(Exp e) {
            Exp a = e.a;
            if (isFaulty(a)) {
                return;
            }
            if (e.kind != Exp.PAREN && !isTakenAlone(e, a.type)) {
                program.tell(5, a.first);
                return;
            }
            if (e.kind == Exp.CAST) {
                e.type = e.work;
            } else {
                e.type = e.kind == Exp.PAREN || e.sign == NOT ? a.type : promoted(a.type);
            }
            e.isConstant = a.isConstant;
            e.value = e.kind == Exp.ALONE ? workedAlone(e.sign, e.type, a.value) : narrowed(e.type, a.value);
        }

        private static boolean isTakenAlone(Exp e, int type) {
            if (e.kind == Exp.CAST) {
                return isNumber(type) && isNumber(e.work) || type == BOOLEAN && e.work == BOOLEAN;
            }
            return e.sign == NOT ? type == BOOLEAN : isNumber(type);
        }

        private static int promoted(int type) {
            return type == LONG ? LONG : INT;
        }

        /** Whether the variable that an exp changes is there and may be changed. */
        private boolean mayChange(Exp e, Variable v) {
            if (v == null) {
                program.tell(3, e.name);
                return false;
            }
            if (v.isFinal) {
                program.tell(7, e.name);
            }
            return !v.isFinal;
        }

        private void judgeCount(Exp e) {
            Variable v = variableOf(e);
            boolean may = mayChange(e, v);
            if (v == null) {
                return;
            }
            if (!isNumber(v.type)) {
                program.tell(5, e.first);
            } else if (may) {
                e.type = v.type;
            }
        }

        private void judgeAssignment(Exp e) {
            Variable v = variableOf(e);
            boolean may = mayChange(e, v);
            if (v == null) {
                return;
            }
            if (e.sign == ASSIGN) {
                may &= !isFaulty(e.b) && isWanted(fits(e.b, v.type), e.b.first);
            } else {
                may &= areTaken(e, v.type, e.b);
            }
            if (may) {
                e.type = v.type;
                e.work = workType(e.sign, v.type, e.b.type);
            }
        }

        private boolean isWanted(boolean isFine, int token) {
            if (!isFine) {
                program.tell(5, token);
            }
            return isFine;
        }

        /** The left operand tells its own ERROR, also beside a right one that is at fault. */
        private boolean areTaken(Exp e, int left, Exp right) {
            return isWanted(isLeftTaken(e.sign, left), e.first)
                && !isFaulty(right)
                && isWanted(isRightTaken(e.sign, left, right.type), right.first);
        }

        private static boolean isLogical(int sign) {
            return sign == AND_THEN || sign == OR_ELSE;
        }

        /** Whether an operator takes two booleans as well as two numbers. */
        private static boolean takesBoth(int sign) {
            return sign >= OR && sign <= OTHER;
        }

        private static boolean isLeftTaken(int sign, int type) {
            if (isLogical(sign)) {
                return type == BOOLEAN;
            }
            return isNumber(type) || takesBoth(sign) && type == BOOLEAN;
        }

        private static boolean isRightTaken(int sign, int left, int right) {
            return left == BOOLEAN ? right == BOOLEAN : isNumber(right);
        }

        private static int workType(int sign, int left, int right) {
            if (left == BOOLEAN) {
                return BOOLEAN;
            }
            if (sign >= LEFT && sign <= RIGHT_ZERO) {
                return promoted(left);
            }
            return left == LONG || right == LONG ? LONG : INT;
        }

        private void judgeChain(Exp e) {
            Exp a = e.a;
            Exp b = e.b;
            if (isFaulty(a) || !areTaken(e, a.type, b)) {
                return;
            }
            e.work = workType(e.sign, a.type, b.type);
            e.type = e.sign >= SAME && e.sign <= AT_LEAST ? BOOLEAN : e.work;
            // also of && and || both sides have to be CONSTANTS, whichever a run leaves out
            e.isConstant = a.isConstant && b.isConstant && !(isDivision(e.sign) && b.value == 0);
            if (e.isConstant) {
                e.value = workedChain(e, a.value, b.value);
            }
        }

        private static long workedChain(Exp e, long a, long b) {
            switch (e.sign) {
                case AND_THEN: return a & b;
                case OR_ELSE: return a | b;
                default: return worked(e.sign, e.work, a, b);
            }
        }

        private void judgeChoice(Exp e) {
            boolean isFine = !isFaulty(e.a) && isWanted(e.a.type == BOOLEAN, e.a.first)
                && !isFaulty(e.b) && isWanted(e.b.type != VOID, e.b.first)
                && !isFaulty(e.c) && isWanted(isRightTaken(QUESTION, e.b.type, e.c.type), e.c.first);
            if (!isFine) {
                return;
            }
            e.type = choiceType(e.b, e.c);
            e.isConstant = e.a.isConstant && e.b.isConstant && e.c.isConstant;
            e.value = e.a.value == 1 ? e.b.value : e.c.value;
        }

        private static int choiceType(Exp b, Exp c) {
            if (b.type == c.type) {
                return b.type;
            }
            if (isSmall(b.type) && c.type == INT && isHeld(c, b.type)) {
                return b.type;
            }
            if (isSmall(c.type) && b.type == INT && isHeld(b, c.type)) {
                return c.type;
            }
            return b.type == LONG || c.type == LONG ? LONG : INT;
        }

        private static boolean isSmall(int type) {
            return type == BYTE || type == CHAR;
        }

        private static boolean isHeld(Exp e, int type) {
            return e.isConstant && narrowed(type, e.value) == e.value;
        }

        private static boolean fits(Exp e, int type) {
            if (sameOrWidens(e.type, type)) {
                return true;
            }
            return isSmall(type) && (isSmall(e.type) || e.type == INT) && isHeld(e, type);
        }

        private void judgeCall(Exp e) {
            int count = 0;
            boolean isFine = true;
            for (Exp x = e.a; x != null; x = x.next) {
                isFine &= !isFaulty(x) && isWanted(x.type != VOID, x.first);
                count++;
            }
            if (!isFine) {
                return;
            }
            e.link = calledMethod(e, count);
            Method m = program.methodOf(e.link);
            if (m == null) {
                program.tell(6, e.first);
                return;
            }
            e.type = m.type;
            program.tokens.meaning[e.first] = METHODS_FROM + e.link;
        }

        private int calledMethod(Exp e, int count) {
            long key = program.tokens.worth[e.first];
            for (int i = 0; i <= IN; i++) {
                // out and in were there before all others
                int number = (i + OUT) % (IN + 1);
                Method m = program.methodOf(number);
                if (m != null && m.takes(key, count, e.a) && isNarrowest(m, key, count, e.a)) {
                    return number;
                }
            }
            return -1;
        }

        private boolean isNarrowest(Method m, long key, int count, Exp firstArgument) {
            for (int i = 0; i <= IN; i++) {
                Method n = program.methodOf(i);
                if (n != null && n.takes(key, count, firstArgument) && !m.isAsNarrowAs(n)) {
                    return false;
                }
            }
            return true;
        }

        /** A variable's exp goes into it: behind this its NAME may be a CONSTANT. */
        private void judgeStore(Exp e) {
            Variable v = variableOf(e);
            if (v == null || isFaulty(e.a) || !isWanted(fits(e.a, v.type), e.a.first)) {
                return;
            }
            v.isConstant = v.isFinal && e.a.isConstant;
            v.value = e.a.value;
        }

        // ---- S

        private void judgeStatement(Statement s) {
            switch (s.kind) {
                case IF: case WHILE: case DO: case FOR:
                    if (!isFaulty(s.exp)) {
                        isWanted(s.exp.type == BOOLEAN, s.exp.first);
                    }
                    break;
                case SWITCH: judgeSwitch(s); break;
                case BREAK: case CONTINUE: judgeJump(s); break;
                case RETURN: judgeReturn(s); break;
                case THROW:
                    if (!isFaulty(s.exp)) {
                        isWanted(fits(s.exp, INT), s.exp.first);
                    }
                    break;
                case Statement.LABEL: judgeLabel(s); break;
                case Statement.EXP: case Statement.FOR_EXP:
                    if (s.exp != null && !s.exp.acts()) {
                        program.tell(12, s.exp.first);
                    }
                    break;
                default: break;
            }
        }

        private void judgeSwitch(Statement s) {
            if (isFaulty(s.exp)) {
                return;
            }
            int type = s.exp.type;
            isWanted(type == BYTE || type == CHAR || type == INT, s.exp.first);
            boolean hasDefault = false;
            for (Statement t = s.body; t != null; t = t.next) {
                if (t.kind == CASE) {
                    judgeCase(s, t);
                } else if (t.kind == DEFAULT) {
                    if (hasDefault) {
                        program.tell(8, t.first);
                    }
                    hasDefault = true;
                }
            }
        }

        private void judgeCase(Statement s, Statement t) {
            if (isFaulty(t.exp)) {
                return;
            }
            boolean isFine = t.exp.isConstant && fits(t.exp, s.exp.type);
            for (Statement u = s.body; u != null && u != t; u = u.next) {
                if (u.kind == CASE && !isFaulty(u.exp) && u.exp.isConstant && u.exp.value == t.exp.value) {
                    isFine = false;
                }
            }
            if (!isFine) {
                program.tell(8, t.exp.first);
            }
        }

        private void judgeJump(Statement s) {
            for (Statement t = s.parent; t != null && s.target == null; t = t.parent) {
                if (s.link < 0) {
                    if (t.isLoop() || s.kind == BREAK && t.kind == SWITCH) {
                        s.target = t;
                    }
                } else if (t.kind == Statement.LABEL && isSameName(s.link, t.link)) {
                    s.target = t;
                }
            }
            if (s.kind == CONTINUE && s.target != null && s.target.kind == Statement.LABEL) {
                Statement loop = s.target.body;
                s.target = loop != null && loop.isLoop() ? loop : null;
            }
            if (s.target == null) {
                program.tell(9, s.link < 0 ? s.first : s.link);
            }
        }

        private boolean isSameName(int i, int k) {
            return program.tokens.worth[i] == program.tokens.worth[k];
        }

        private void judgeLabel(Statement s) {
            for (Statement t = s.parent; t != null; t = t.parent) {
                if (t.kind == Statement.LABEL && isSameName(s.link, t.link)) {
                    program.tell(10, s.link);
                }
            }
        }

        private void judgeReturn(Statement s) {
            Method m = program.methodOf(s.link);
            if (m == null || s.exp != null && isFaulty(s.exp)) {
                return;
            }
            if ((s.exp == null) != (m.type == VOID)) {
                program.tell(11, s.first);
            } else if (s.exp != null) {
                isWanted(fits(s.exp, m.type), s.exp.first);
            }
        }
    }

    /** What can be REACHED and what is SURELY assigned, along the S's of a program's methods. */
    private static final class Flow {
        private static final long ALL = -1L;

        private Program program;
        // what holds behind the exp so far when it is true, and when it is false
        private long whenTrue;
        private long whenFalse;
        // what holds on the sides of && || and choices that are left for later: each has a token
        private final long[] aside = new long[MOST_TOKENS];
        private int asideCount;

        Flow(Program flowing) {
            program = flowing;
        }

        // ---- REACHED

        void reachAll(Program reached) {
            program = reached;
            for (int k = 0; k < program.methods.size(); k++) {
                Method m = program.methods.get(k);
                if (reachRow(m.body) && m.type != VOID) {
                    program.tell(14, m.name);
                }
            }
        }

        /** Whether the end of a body's or block's row can be reached, if its beginning can be. */
        private boolean reachRow(Statement s) {
            boolean alive = true;
            for (Statement t = s.body; t != null; t = t.next) {
                alive = reach(t, alive);
            }
            s.ends = alive;
            return alive;
        }

        /** Whether an S can end normally; what is in one that can't be reached tells nothing more. */
        private boolean reach(Statement s, boolean alive) {
            if (!alive) {
                program.tell(13, s.first);
                return false;
            }
            s.ends = s.level <= DEEPEST && reachInside(s);
            return s.ends;
        }

        private boolean reachInside(Statement s) {
            switch (s.kind) {
                case BLOCK: return reachRow(s);
                case Statement.LABEL: return reachBody(s, true) || s.broken;
                case IF:
                    boolean then = reachBody(s, true);
                    return s.other == null || reach(s.other, true) || then;
                case WHILE: case FOR:
                    reachBody(s, !s.isAlways(0));
                    return !s.isAlways(1) || s.broken;
                case DO:
                    boolean around = reachBody(s, true) || s.continued;
                    return around && !s.isAlways(1) || s.broken;
                case SWITCH: return reachSwitch(s);
                case TRY: return reachTry(s);
                case BREAK: case CONTINUE:
                    markTarget(s);
                    return false;
                default: return s.kind != RETURN && s.kind != THROW;
            }
        }

        private boolean reachBody(Statement s, boolean alive) {
            return s.body != null && reach(s.body, alive);
        }

        private boolean reachSwitch(Statement s) {
            boolean alive = false;
            boolean hasDefault = false;
            for (Statement t = s.body; t != null; t = t.next) {
                if (t.kind == CASE || t.kind == DEFAULT) {
                    alive = true;
                    hasDefault |= t.kind == DEFAULT;
                } else {
                    alive = reach(t, alive);
                }
            }
            return alive || !hasDefault || s.broken;
        }

        /** The finally comes first: whether breaks out of the others get anywhere hangs on it. */
        private boolean reachTry(Statement s) {
            boolean finallyEnds = s.last == null || reachRow(s.last);
            boolean ends = s.body != null && reachRow(s.body);
            if (s.other != null) {
                ends |= reachRow(s.other);
            }
            return ends && finallyEnds;
        }

        private static void markTarget(Statement s) {
            for (Statement t = s; t != null && t != s.target; t = t.parent) {
                if (t.hasFinallyAhead() && !t.parent.last.ends) {
                    return;
                }
            }
            if (s.target != null && s.kind == BREAK) {
                s.target.broken = true;
            } else if (s.target != null) {
                s.target.continued = true;
            }
        }

        // ---- SURELY assigned

        void assignAll(Program assigned) {
            program = assigned;
            for (int k = 0; k < program.methods.size(); k++) {
                Method m = program.methods.get(k);
                long params = 0;
                for (int i = 0; i < m.params; i++) {
                    params |= bit(m.firstVariable + i);
                }
                assign(m.body, params);
            }
        }

        private long assign(Statement s, long before) {
            s.before = before;
            s.behind = s.level > DEEPEST ? before : behind(s, before);
            return s.behind;
        }

        private long assignRow(Statement first, long before) {
            long m = before;
            for (Statement t = first; t != null; t = t.next) {
                m = assign(t, m);
            }
            return m;
        }

        private long assignBody(Statement s, long before) {
            return s.body == null ? before : assign(s.body, before);
        }

        private long behind(Statement s, long m) {
            switch (s.kind) {
                case BLOCK: case Statement.BODY: return assignRow(s.body, m);
                case Statement.TOLD: case Statement.FOR_TOLD: return behindTold(s, m);
                case Statement.EXP: case Statement.FOR_EXP: return behindExp(s.exp, m);
                case RETURN: case THROW:
                    behindExp(s.exp, m);
                    return ALL;
                case BREAK: case CONTINUE:
                    leadTo(s, m);
                    return ALL;
                case Statement.LABEL:
                    long inner = assignBody(s, m);
                    return inner & s.breaks;
                case IF: return behindIf(s, m);
                case WHILE: case DO: case FOR: return behindLoop(s, m);
                case SWITCH: return behindSwitch(s, m);
                case TRY: return behindTry(s, m);
                default: return m;
            }
        }

        private long behindTold(Statement s, long m) {
            long told = s.link >= 0 ? bit(s.link) : 0;
            if (s.exp == null) {
                return m & ~told;
            }
            return behindExp(s.exp, m & ~told) | told;
        }

        private void leadTo(Statement s, long before) {
            long m = before;
            for (Statement t = s; t != null && t != s.target; t = t.parent) {
                if (t.hasFinallyAhead()) {
                    m |= t.parent.last.behind;
                }
            }
            if (s.target != null && s.kind == BREAK) {
                s.target.breaks &= m;
            } else if (s.target != null) {
                s.target.continues &= m;
            }
        }

        private long behindIf(Statement s, long m) {
            behindExp(s.exp, m);
            long otherwise = whenFalse;
            long then = assignBody(s, whenTrue);
            return then & (s.other == null ? otherwise : assign(s.other, otherwise));
        }

        private long behindLoop(Statement s, long before) {
            if (s.kind == DO) {
                long round = assignBody(s, before);
                behindExp(s.exp, round & s.continues);
                return whenFalse & s.breaks;
            }
            long m = s.kind == FOR ? assignRow(s.other, before) : before;
            behindExp(s.exp, m);
            long done = s.exp == null ? ALL : whenFalse;
            long round = assignBody(s, whenTrue);
            if (s.kind == FOR) {
                assignRow(s.last, round & s.continues);
            }
            return done & s.breaks;
        }

        /** What holds ahead of a case: what holds behind the exp and behind the S ahead of the case. */
        private long behindSwitch(Statement s, long before) {
            long chosen = behindExp(s.exp, before);
            long m = ALL;
            boolean hasDefault = false;
            for (Statement t = s.body; t != null; t = t.next) {
                if (t.kind == CASE || t.kind == DEFAULT) {
                    m &= chosen;
                    hasDefault |= t.kind == DEFAULT;
                } else {
                    m = assign(t, m);
                }
            }
            return (hasDefault ? m : m & chosen) & s.breaks;
        }

        /** The finally comes first: breaks and continues out of the others take what it assigns. */
        private long behindTry(Statement s, long before) {
            long given = s.last == null ? 0 : assign(s.last, before);
            long m = assignBody(s, before);
            if (s.other != null) {
                m &= assign(s.other, s.link >= 0 ? before | bit(s.link) : before);
            }
            return m | given;
        }

        private long behindExp(Exp e, long before) {
            whenTrue = before;
            whenFalse = before;
            asideCount = 0;
            if (e != null) {
                for (int i = e.start; i <= e.number && i < program.exps.size(); i++) {
                    pass(program.exps.get(i));
                }
            }
            return whenTrue & whenFalse;
        }

        private void pass(Exp e) {
            switch (e.kind) {
                case Exp.PAREN: break;
                case Exp.MARK_FORK:
                    if (e.sign == AND_THEN) {
                        fork(whenFalse, whenTrue);
                    } else {
                        fork(whenTrue, whenFalse);
                    }
                    break;
                case Exp.MARK_THEN: fork(whenFalse, whenTrue); break;
                case Exp.MARK_ELSE: passElse(); break;
                case Exp.CHOICE:
                    whenFalse &= fromAside();
                    whenTrue &= fromAside();
                    break;
                case Exp.CHAIN: passChain(e); break;
                case Exp.ALONE:
                    if (e.sign == NOT) {
                        long turned = whenTrue;
                        whenTrue = whenFalse;
                        whenFalse = turned;
                    }
                    break;
                case Exp.NAME_EXP: case Exp.MARK_TAKE: case Exp.COUNT: takeValue(e); break;
                case Exp.ASSIGNMENT:
                    join(e, e.link >= 0 ? bit(e.link) : 0);
                    break;
                default: join(e, 0); break;
            }
        }

        private void fork(long later, long now) {
            toAside(later);
            whenTrue = now;
            whenFalse = now;
        }

        private void passElse() {
            long otherwise = fromAside();
            toAside(whenTrue);
            toAside(whenFalse);
            whenTrue = otherwise;
            whenFalse = otherwise;
        }

        private void passChain(Exp e) {
            if (e.sign == AND_THEN) {
                whenFalse &= fromAside();
            } else if (e.sign == OR_ELSE) {
                whenTrue &= fromAside();
            } else {
                join(e, 0);
            }
        }

        private void takeValue(Exp e) {
            if (!e.isConstant && e.link >= 0 && !has(whenTrue & whenFalse, e.link)) {
                program.tell(15, e.name);
            }
            join(e, 0);
        }

        /** Both sides come together; behind a CONSTANT the side that it never takes holds all. */
        private void join(Exp e, long more) {
            long m = whenTrue & whenFalse | more;
            boolean isFixed = e.isConstant && e.type == BOOLEAN;
            whenTrue = isFixed && e.value == 0 ? ALL : m;
            whenFalse = isFixed && e.value == 1 ? ALL : m;
        }

        private void toAside(long m) {
            if (asideCount < aside.length) {
                aside[asideCount] = m;
                asideCount++;
            }
        }

        private long fromAside() {
            if (asideCount == 0) {
                return ALL;
            }
            asideCount--;
            return aside[asideCount];
        }
    }

    /**
     * A program without ERRORS as one row of plain orders, so that a run needs no call within a call.
     * Every order knows the S that it is of: from there on a throw or break finds its way.
     */
    private static final class Code {
        static final int VALUE = 0;
        static final int LOAD = 1;
        static final int STORE = 2;
        static final int ALONE = 3;
        static final int CAST = 4;
        static final int CHAIN = 5;
        static final int COUNT = 6;
        static final int ASSIGNMENT = 7;
        static final int CALL = 8;
        static final int DROP = 9;
        static final int JUMP = 10;
        static final int JUMP_FALSE = 11;
        static final int JUMP_TRUE = 12;
        static final int KEEP_FALSE = 13;
        static final int KEEP_TRUE = 14;
        static final int BEGIN = 15;
        static final int LOOK = 16;
        static final int CHOOSE = 17;
        static final int LEAVE = 18;
        static final int GIVE_BACK = 19;
        static final int RAISE = 20;
        static final int FINALLY_IN = 21;
        static final int FINALLY_OUT = 22;
        static final int METHOD_END = 23;
        // `a += 1;` makes most: five orders of four tokens
        private static final int ROOM = MOST_TOKENS * 2;

        final int[] order = new int[ROOM];
        final int[] target = new int[ROOM];
        final Exp[] exp = new Exp[ROOM];
        final Statement[] owner = new Statement[ROOM];
        int size;
        Program program;
        private Statement current = new Statement(Statement.BODY, 0, 0, null, 0);

        Code(Program laid) {
            program = laid;
        }

        void lay(Program laid) {
            program = laid;
            size = 0;
            for (int k = 0; k < program.methods.size(); k++) {
                Method m = program.methods.get(k);
                layBody(m.body);
                current = m.body;
                put(METHOD_END, null);
            }
        }

        private int put(int what, Exp e) {
            if (size >= ROOM) {
                return ROOM - 1;
            }
            order[size] = what;
            exp[size] = e;
            owner[size] = current;
            target[size] = 0;
            size++;
            return size - 1;
        }

        private void jumpTo(int what, int where) {
            target[put(what, null)] = where;
        }

        private void layBody(Statement s) {
            s.entry = size;
            layRow(s.body);
            s.exit = size;
        }

        private void layRow(Statement first) {
            for (Statement t = first; t != null; t = t.next) {
                layStatement(t);
            }
        }

        private void layStatement(Statement s) {
            if (s.level > DEEPEST) {
                return;
            }
            Statement outer = current;
            current = s;
            if (!s.isPart()) {
                put(BEGIN, null);
            }
            s.entry = size;
            layInside(s);
            s.exit = size;
            current = outer;
        }

        private void layInner(Statement s) {
            if (s != null) {
                layStatement(s);
            }
        }

        private void layInside(Statement s) {
            switch (s.kind) {
                case BLOCK: layRow(s.body); break;
                case Statement.LABEL: layInner(s.body); break;
                case Statement.TOLD: case Statement.FOR_TOLD: layTold(s); break;
                case Statement.EXP: case Statement.FOR_EXP:
                    layExp(s.exp);
                    put(DROP, null);
                    break;
                case IF: layIf(s); break;
                case WHILE: layWhile(s); break;
                case DO: layDo(s); break;
                case FOR: layFor(s); break;
                case SWITCH:
                    layExp(s.exp);
                    put(CHOOSE, null);
                    layRow(s.body);
                    break;
                case TRY: layTry(s); break;
                case BREAK: case CONTINUE: put(LEAVE, null); break;
                case RETURN:
                    layExp(s.exp);
                    put(GIVE_BACK, null);
                    break;
                case THROW:
                    layExp(s.exp);
                    put(RAISE, null);
                    break;
                default: break;
            }
        }

        private void layTold(Statement s) {
            if (s.exp != null) {
                layExp(s.exp);
                target[put(STORE, null)] = s.link;
            }
        }

        private void layIf(Statement s) {
            layExp(s.exp);
            int toElse = put(JUMP_FALSE, null);
            layInner(s.body);
            if (s.other != null) {
                int toEnd = put(JUMP, null);
                target[toElse] = size;
                layStatement(s.other);
                target[toEnd] = size;
            } else {
                target[toElse] = size;
            }
        }

        private void layWhile(Statement s) {
            int again = size;
            put(LOOK, null);
            layExp(s.exp);
            int toEnd = put(JUMP_FALSE, null);
            layInner(s.body);
            jumpTo(JUMP, again);
            target[toEnd] = size;
        }

        private void layDo(Statement s) {
            int again = size;
            layInner(s.body);
            int look = put(LOOK, null);
            layExp(s.exp);
            jumpTo(JUMP_TRUE, again);
            s.entry = look;
        }

        private void layFor(Statement s) {
            layRow(s.other);
            int again = put(LOOK, null);
            int toEnd = -1;
            if (s.exp != null) {
                layExp(s.exp);
                toEnd = put(JUMP_FALSE, null);
            }
            int toBody = put(JUMP, null);
            int round = size;
            layRow(s.last);
            jumpTo(JUMP, again);
            target[toBody] = size;
            layInner(s.body);
            jumpTo(JUMP, round);
            if (toEnd >= 0) {
                target[toEnd] = size;
            }
            s.entry = round;
        }

        private void layTry(Statement s) {
            if (s.body != null) {
                layBody(s.body);
            }
            int toEnd = put(JUMP, null);
            if (s.other != null) {
                layBody(s.other);
            }
            target[toEnd] = size;
            if (s.last != null) {
                put(FINALLY_IN, null);
                layBody(s.last);
                put(FINALLY_OUT, null);
            }
        }

        /** The orders stand as the exps do in the program's list. */
        private void layExp(Exp e) {
            if (e == null) {
                return;
            }
            for (int i = e.start; i <= e.number && i < program.exps.size(); i++) {
                layOne(program.exps.get(i));
            }
        }

        private void layOne(Exp e) {
            switch (e.kind) {
                case Exp.NUMBER_EXP: case Exp.LITERAL: put(VALUE, e); break;
                case Exp.NAME_EXP: put(e.isConstant ? VALUE : LOAD, e); break;
                case Exp.MARK_TAKE: put(LOAD, e); break;
                case Exp.ALONE: put(ALONE, e); break;
                case Exp.CAST: put(CAST, e); break;
                case Exp.COUNT: put(COUNT, e); break;
                case Exp.ASSIGNMENT: put(ASSIGNMENT, e); break;
                case Exp.CALL: put(CALL, e); break;
                case Exp.CHAIN:
                    if (e.mark == null) {
                        put(CHAIN, e);
                    } else {
                        target[e.mark.address] = size;
                    }
                    break;
                case Exp.MARK_FORK: e.address = put(e.sign == AND_THEN ? KEEP_FALSE : KEEP_TRUE, e); break;
                case Exp.MARK_THEN: e.address = put(JUMP_FALSE, e); break;
                case Exp.MARK_ELSE:
                    e.address = put(JUMP, e);
                    if (e.mark != null) {
                        target[e.mark.address] = size;
                    }
                    break;
                case Exp.CHOICE:
                    if (e.mark != null) {
                        target[e.mark.address] = size;
                    }
                    break;
                default: break;
            }
        }
    }

    /** Runs a program's code. All calls, values that wait and ways through finally are in rows. */
    private static final class Machine {
        // how a run stands; the first six are what run() answers
        private static final int ENDED = 0;
        private static final int WITH_VALUE = 1;
        private static final int THREW = 2;
        private static final int STEPS_OUT = 3;
        private static final int CALLS_OUT = 4;
        private static final int TOLD_OUT = 5;
        private static final int RUNNING = 6;
        private static final int BY_ZERO = 7;
        // how a finally was come to, if not by break, continue, return or throw
        private static final int NORMALLY = 0;
        // far above what 20000 STEPS can need: some 500 orders stand between two of them
        private static final int MOST_ORDERS = 100000000;
        private static final int MOST_WAYS = MOST_CALLS * (DEEPEST + 1) * 4;

        private final long[] values = new long[MOST_CALLS * MOST_VARIABLES];
        private final long[] stack = new long[MOST_CALLS * (MOST_TOKENS / 2)];
        private final int[] floors = new int[MOST_CALLS + 1];
        private final int[] returns = new int[MOST_CALLS + 1];
        private final int[] ways = new int[MOST_CALLS * (DEEPEST + 1)];
        private final long[] carried = new long[MOST_CALLS * (DEEPEST + 1)];
        private final Statement[] goals = new Statement[MOST_CALLS * (DEEPEST + 1)];
        private final long[] numbers = new long[MOST_TOLD];
        private final Code code;
        private int[] inputs = new int[0];
        private int inputCount;
        private int at;
        private int top;
        private int calls;
        private int limit;
        private int steps;
        private int told;
        private int taken;
        private int latest;
        private int outcome;
        private long result;

        Machine(Code laid) {
            code = laid;
        }

        void prepare(int[] given, int count) {
            inputs = given;
            inputCount = Math.min(count, given.length);
            top = 0;
            calls = 0;
            steps = 0;
            told = 0;
            taken = 0;
            latest = -1;
            result = 0;
            outcome = RUNNING;
        }

        int perform(Method m, long[] arguments, int mostSteps) {
            limit = mostSteps;
            for (int i = 0; i < m.params && i < arguments.length; i++) {
                int type = m.paramTypes[i];
                push(type == BOOLEAN ? arguments[i] != 0 ? 1 : 0 : narrowed(type, arguments[i]));
            }
            if (step()) {
                enter(m);
            }
            for (int i = 0; outcome == RUNNING && i < MOST_ORDERS; i++) {
                obey();
            }
            if (outcome == ENDED && m.type != VOID) {
                outcome = WITH_VALUE;
            }
            return outcome;
        }

        long report(int what) {
            switch (what) {
                case 0: return result;
                case 1: return steps;
                case 2: return told;
                case 3: return taken;
                case 4: return latest < 0 ? NOTHING : latest;
                default: return what >= 10 && what - 10 < told ? numbers[what - 10] : NOTHING;
            }
        }

        private void push(long v) {
            if (top < stack.length) {
                stack[top] = v;
                top++;
            }
        }

        private long pop() {
            if (top <= 0) {
                return 0;
            }
            top--;
            return stack[top];
        }

        /** Where a variable of the latest call has its value. */
        private int slot(int variable) {
            int i = (calls - 1) * MOST_VARIABLES + variable;
            return i >= 0 && i < values.length ? i : 0;
        }

        private boolean step() {
            if (steps >= limit) {
                outcome = STEPS_OUT;
                return false;
            }
            steps++;
            return true;
        }

        private void obey() {
            if (at < 0 || at >= code.size) {
                outcome = ENDED;
                return;
            }
            int now = at;
            at++;
            Exp e = code.exp[now];
            if (code.order[now] <= Code.CALL && e != null) {
                work(code.order[now], e);
                if (outcome == BY_ZERO) {
                    outcome = RUNNING;
                    leave(THROW, -1, code.owner[now], null);
                }
            } else if (code.order[now] <= Code.KEEP_TRUE) {
                move(code.order[now], code.target[now]);
            } else if (code.owner[now] != null) {
                control(code.order[now], code.owner[now]);
            }
        }

        private void work(int order, Exp e) {
            switch (order) {
                case Code.VALUE: push(e.value); break;
                case Code.LOAD: push(values[slot(e.link)]); break;
                case Code.ALONE: push(workedAlone(e.sign, e.type, pop())); break;
                case Code.CAST: push(narrowed(e.type, pop())); break;
                case Code.COUNT: count(e); break;
                case Code.CHAIN:
                    long right = pop();
                    operate(e, pop(), right);
                    break;
                case Code.ASSIGNMENT: assign(e); break;
                case Code.CALL: call(e); break;
                default: break;
            }
        }

        private void operate(Exp e, long left, long right) {
            if (isDivision(e.sign) && right == 0) {
                outcome = BY_ZERO;
            } else {
                push(worked(e.sign, e.work, left, right));
            }
        }

        private void count(Exp e) {
            int i = slot(e.link);
            long before = values[i];
            values[i] = narrowed(e.type, e.sign == INCREASE ? before + 1 : before - 1);
            push(e.name == e.first ? before : values[i]);
        }

        private void assign(Exp e) {
            long right = pop();
            if (e.sign == ASSIGN) {
                values[slot(e.link)] = right;
                push(right);
                return;
            }
            long left = pop();
            if (isDivision(e.sign) && right == 0) {
                outcome = BY_ZERO;
                return;
            }
            long v = narrowed(e.type, worked(e.sign, e.work, left, right));
            values[slot(e.link)] = v;
            push(v);
        }

        private void call(Exp e) {
            Method m = code.program.methodOf(e.link);
            if (m == null || !step()) {
                return;
            }
            if (e.link != OUT && e.link != IN) {
                enter(m);
            } else if (calls >= MOST_CALLS) {
                outcome = CALLS_OUT;
            } else if (e.link == OUT) {
                tellNumber(pop());
            } else {
                push(taken < inputCount ? inputs[taken] : 0);
                taken++;
            }
        }

        /** A call without a value leaves a 0, so that every exp leaves one value. */
        private void tellNumber(long v) {
            if (told >= MOST_TOLD) {
                outcome = TOLD_OUT;
                return;
            }
            numbers[told] = v;
            told++;
            push(0);
        }

        private void enter(Method m) {
            if (calls >= MOST_CALLS) {
                outcome = CALLS_OUT;
                return;
            }
            returns[calls] = at;
            calls++;
            for (int i = m.params - 1; i >= 0; i--) {
                values[slot(m.firstVariable + i)] = pop();
            }
            floors[calls] = top;
            at = m.body.entry;
        }

        private void leaveCall(long v) {
            if (calls <= 0) {
                outcome = ENDED;
                return;
            }
            top = floors[calls];
            calls--;
            at = returns[calls];
            if (calls == 0) {
                outcome = ENDED;
                result = v;
            } else {
                push(v);
            }
        }

        private void move(int order, int target) {
            switch (order) {
                case Code.STORE: values[slot(target)] = pop(); break;
                case Code.DROP: pop(); break;
                case Code.JUMP: at = target; break;
                case Code.JUMP_FALSE: at = pop() == 0 ? target : at; break;
                case Code.JUMP_TRUE: at = pop() != 0 ? target : at; break;
                default:
                    long v = pop();
                    if ((v == 0) == (order == Code.KEEP_FALSE)) {
                        push(v);
                        at = target;
                    }
                    break;
            }
        }

        private void control(int order, Statement s) {
            switch (order) {
                case Code.BEGIN:
                    if (step()) {
                        latest = s.first;
                    }
                    break;
                case Code.LOOK: step(); break;
                case Code.CHOOSE: choose(s, pop()); break;
                case Code.LEAVE: leave(s.kind, 0, s, s.target); break;
                case Code.GIVE_BACK: leave(RETURN, s.exp == null ? 0 : pop(), s, null); break;
                case Code.RAISE: leave(THROW, pop(), s, null); break;
                case Code.FINALLY_IN: ways[way(s)] = NORMALLY; break;
                case Code.FINALLY_OUT:
                    int i = way(s);
                    if (ways[i] != NORMALLY) {
                        leave(ways[i], carried[i], s, goals[i]);
                    }
                    break;
                default: leaveCall(0); break;
            }
        }

        /** Where a try of the latest call keeps what goes on behind its finally. */
        private int way(Statement s) {
            int i = (calls - 1) * (DEEPEST + 1) + s.level;
            return i >= 0 && i < ways.length ? i : 0;
        }

        private void choose(Statement s, long v) {
            at = s.exit;
            for (Statement t = s.body; t != null; t = t.next) {
                if (t.kind == CASE && t.exp != null && t.exp.value == v) {
                    at = t.entry;
                    return;
                }
                if (t.kind == DEFAULT) {
                    at = t.entry;
                }
            }
        }

        /**
         * Goes from an S outwards, by break, continue, return or throw, up to its goal or to the first
         * catch or finally on the way.
         */
        private void leave(int how, long v, Statement from, Statement goal) {
            Statement s = from;
            for (int i = 0; i < MOST_WAYS && s != null; i++) {
                if (s == goal) {
                    at = how == BREAK ? s.exit : s.entry;
                    return;
                }
                if (how == THROW && s.isCaught()) {
                    goInto(s.parent.other);
                    values[slot(s.parent.link)] = v;
                    return;
                }
                if (s.hasFinallyAhead()) {
                    int way = way(s.parent);
                    ways[way] = how;
                    carried[way] = v;
                    goals[way] = goal;
                    goInto(s.parent.last);
                    return;
                }
                s = s.parent == null ? behindMethod(how, v) : s.parent;
            }
        }

        private void goInto(Statement body) {
            top = floors[calls];
            at = body.entry;
        }

        /** The call ends: what is thrown goes on from the S that called, all else ends there. */
        private Statement behindMethod(int how, long v) {
            if (how != THROW) {
                leaveCall(v);
                return null;
            }
            leaveCall(0);
            if (calls == 0) {
                outcome = THREW;
                result = v;
                return null;
            }
            return at > 0 && at <= code.size ? code.owner[at - 1] : null;
        }
    }
}
