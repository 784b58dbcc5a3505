import java.util.ArrayList;
import java.util.Arrays;

/** Words of a small language become code for a machine with a stack. */
public final class ChunkCode {
    public static final int BAD = -1;
    public static final int FULL = -3;

    private static final int MOST_WORDS = 16384;
    private static final int MOST_LEVELS = 48;
    private static final int MOST_LOCALS = 200;
    private static final int MOST_ROWS = 1 << 20;

    private final Faults faults;
    private final Words words;
    private final Bodies bodies;
    private final Reader reader;
    private final Audit audit;
    private int place;

    public ChunkCode() {
        faults = new Faults();
        words = new Words(faults);
        bodies = new Bodies();
        reader = new Reader(words, faults, bodies);
        audit = new Audit(bodies);
        Body chunk = bodies.add();
        chunk.dots = 1;
        chunk.instructions.add(Op.RETURN, 0, 0, 0);
    }

    public int word(int kind, int text) {
        if (!Kind.isKnown(kind)) {
            return BAD;
        }
        if (words.count() >= MOST_WORDS) {
            return FULL;
        }
        return words.add(kind, text);
    }

    public int compile() {
        faults.clear();
        bodies.clear();
        try {
            reader.chunk();
        } catch (IllegalStateException refused) {
            // The grammar's refusal leaves the reader this way; which one it is stands in faults.
            bodies.clear();
        }
        int fault = faults.kind();
        place = fault == 0 ? words.count() : faults.atWord();
        words.clear();
        if (fault != 0) {
            bodies.clear();
            return -fault;
        }
        return bodies.count();
    }

    public int place() {
        return place;
    }

    public int functions() {
        return bodies.count();
    }

    public int function(int f, int what) {
        Body body = bodies.at(f);
        if (body == null) {
            return BAD;
        }
        switch (what) {
            case 0:
                return body.around;
            case 1:
                return body.names;
            case 2:
                return body.dots;
            case 3:
                return body.words;
            case 4:
                return body.most;
            case 5:
                return body.outers.rows();
            case 6:
                return body.instructions.rows();
            case 7:
                return body.functionWord;
            default:
                return BAD;
        }
    }

    public int outer(int f, int i, int what) {
        Body body = bodies.at(f);
        if (body == null || !body.outers.has(i) || what < 0 || what > 1) {
            return BAD;
        }
        return body.outers.get(i, what);
    }

    public int code(int f, int i, int what) {
        Body body = bodies.at(f);
        if (body == null || !body.instructions.has(i) || what < 0 || what > 3) {
            return BAD;
        }
        return body.instructions.get(i, what);
    }

    public int depth(int f) {
        Body body = bodies.at(f);
        return body == null ? BAD : audit.greatest(body);
    }

    public int flaws() {
        return audit.flawedOfAll();
    }

    /** The kinds of words, and what the grammar says of each. */
    private static final class Kind {
        static final int NONE = 0;
        static final int NAME = 1;
        static final int NUMERAL = 2;
        static final int TEXT = 3;
        static final int AND = 10;
        static final int BREAK = 11;
        static final int DO = 12;
        static final int ELSE = 13;
        static final int ELSEIF = 14;
        static final int END = 15;
        static final int FALSE = 16;
        static final int FOR = 17;
        static final int FUNCTION = 18;
        static final int GOTO = 19;
        static final int IF = 20;
        static final int IN = 21;
        static final int LOCAL = 22;
        static final int NIL = 23;
        static final int NOT = 24;
        static final int OR = 25;
        static final int REPEAT = 26;
        static final int RETURN = 27;
        static final int THEN = 28;
        static final int TRUE = 29;
        static final int UNTIL = 30;
        static final int WHILE = 31;
        static final int PLUS = 40;
        static final int MINUS = 41;
        static final int STAR = 42;
        static final int SLASH = 43;
        static final int PERCENT = 44;
        static final int POWER = 45;
        static final int LENGTH = 46;
        static final int AMPERSAND = 47;
        static final int TILDE = 48;
        static final int BAR = 49;
        static final int SHIFT_LEFT = 50;
        static final int SHIFT_RIGHT = 51;
        static final int DOUBLE_SLASH = 52;
        static final int EQUAL = 53;
        static final int UNEQUAL = 54;
        static final int AT_MOST = 55;
        static final int AT_LEAST = 56;
        static final int LESS = 57;
        static final int GREATER = 58;
        static final int ASSIGN = 59;
        static final int ROUND = 60;
        static final int ROUND_END = 61;
        static final int CURLY = 62;
        static final int CURLY_END = 63;
        static final int SQUARE = 64;
        static final int SQUARE_END = 65;
        static final int DOUBLE_COLON = 66;
        static final int SEMICOLON = 67;
        static final int COLON = 68;
        static final int COMMA = 69;
        static final int DOT = 70;
        static final int JOIN = 71;
        static final int DOTS = 72;

        static final int UNARY_RANK = 11;

        static boolean isKnown(int kind) {
            return kind >= NAME && kind <= TEXT
                || kind >= AND && kind <= WHILE
                || kind >= PLUS && kind <= DOTS;
        }

        static boolean opensLevel(int kind) {
            return kind == ROUND || kind == SQUARE || kind == CURLY || kind == DO || kind == THEN
                || kind == ELSE || kind == REPEAT || kind == FUNCTION;
        }

        static boolean closesLevel(int kind) {
            return kind == ROUND_END || kind == SQUARE_END || kind == CURLY_END || kind == END
                || kind == UNTIL || kind == ELSEIF || kind == ELSE;
        }

        static boolean endsBlock(int kind) {
            return kind == NONE || kind == END || kind == ELSE || kind == ELSEIF || kind == UNTIL;
        }

        static boolean isUnary(int kind) {
            return kind == NOT || kind == LENGTH || kind == MINUS || kind == TILDE;
        }

        static boolean goesFromRight(int kind) {
            return kind == JOIN || kind == POWER;
        }

        /** How strongly a binary operator binds; 0 for what is none. */
        static int rank(int kind) {
            switch (kind) {
                case OR:
                    return 1;
                case AND:
                    return 2;
                case LESS:
                case GREATER:
                case AT_MOST:
                case AT_LEAST:
                case UNEQUAL:
                case EQUAL:
                    return 3;
                case BAR:
                    return 4;
                case TILDE:
                    return 5;
                case AMPERSAND:
                    return 6;
                case SHIFT_LEFT:
                case SHIFT_RIGHT:
                    return 7;
                case JOIN:
                    return 8;
                case PLUS:
                case MINUS:
                    return 9;
                case STAR:
                case SLASH:
                case DOUBLE_SLASH:
                case PERCENT:
                    return 10;
                case POWER:
                    return 12;
                default:
                    return 0;
            }
        }
    }

    /** The ops of instructions. */
    private static final class Op {
        static final int NIL = 1;
        static final int FALSE = 2;
        static final int TRUE = 3;
        static final int NUMBER = 4;
        static final int TEXT = 5;
        static final int DOTS = 6;
        static final int CLOSURE = 7;
        static final int LOCAL = 8;
        static final int OUTER = 9;
        static final int GLOBAL = 10;
        static final int GET = 11;
        static final int FIELD = 12;
        static final int CALL = 13;
        static final int SELF = 14;
        static final int AND = 15;
        static final int OR = 16;
        static final int NOT = 17;
        static final int UNARY = 18;
        static final int BINARY = 19;
        static final int TABLE = 20;
        static final int ITEM = 21;
        static final int NAMED = 22;
        static final int APPEND = 23;
        static final int APPENDALL = 24;
        static final int FIT = 25;
        static final int DROP = 26;
        static final int DECLARE = 27;
        static final int CLOSING = 28;
        static final int SETLOCAL = 29;
        static final int SETOUTER = 30;
        static final int PUT = 32;
        static final int LEAVE = 33;
        static final int STEP = 34;
        static final int JUMPNO = 35;
        static final int JUMP = 36;
        static final int JUMPYES = 37;
        static final int FORBEGIN = 38;
        static final int ROUND = 39;
        static final int FORNEXT = 40;
        static final int FOREND = 41;
        static final int EACHBEGIN = 42;
        static final int EACH = 43;
        static final int EACHDONE = 44;
        static final int RETURN = 45;
        static final int TAIL = 46;

        // SETLOCAL, SETOUTER, SETGLOBAL stand in the order of LOCAL, OUTER, GLOBAL.
        static int setting(int meaning) {
            return meaning - LOCAL + SETLOCAL;
        }
    }

    /** A growing row of rows of four numbers; what lies outside reads as 0. */
    private static final class Table {
        static final int WIDTH = 4;

        private int[] cells = new int[8 * WIDTH];
        private int rows;

        int rows() {
            return rows;
        }

        boolean has(int row) {
            return row >= 0 && row < rows;
        }

        int get(int row, int column) {
            if (row < 0 || row >= rows || column < 0 || column >= WIDTH) {
                return 0;
            }
            return cells[row * WIDTH + column];
        }

        void set(int row, int column, int value) {
            if (row >= 0 && row < rows && column >= 0 && column < WIDTH) {
                cells[row * WIDTH + column] = value;
            }
        }

        int add(int first, int second, int third, int fourth) {
            int start = rows * WIDTH;
            if (start + WIDTH > cells.length) {
                if (rows >= MOST_ROWS) {
                    return rows;
                }
                cells = Arrays.copyOf(cells, cells.length * 2);
            }
            cells[start] = first;
            cells[start + 1] = second;
            cells[start + 2] = third;
            cells[start + 3] = fourth;
            rows++;
            return rows - 1;
        }

        void cut(int left) {
            if (left >= 0 && left < rows) {
                rows = left;
            }
        }
    }

    /** The fault that counts: the grammar's, or else the first one by its word. */
    private static final class Faults {
        static final int GRAMMAR = 7;
        static final int LEVELS = 8;
        static final int ATTRIBUTE = 9;
        static final int CONSTANT = 10;
        static final int BREAK = 11;
        static final int NO_LABEL = 12;
        static final int SECOND_LABEL = 13;
        static final int OVER_LOCAL = 14;
        static final int DOTS = 15;
        static final int LOCALS = 16;

        private int kind;
        private int word;

        void clear() {
            kind = 0;
            word = 0;
        }

        int kind() {
            return kind;
        }

        int atWord() {
            return word;
        }

        void note(int newKind, int newWord) {
            if (kind == 0 || newWord < word) {
                kind = newKind;
                word = newWord;
            }
        }

        // A fault of the grammar counts before all faults of names, wherever those are.
        void refuse(int newKind, int newWord) {
            kind = newKind;
            word = newWord;
            throw new IllegalStateException();
        }
    }

    /** The row of words, and how far it has been read. */
    private static final class Words {
        private final Faults faults;
        private final Table row = new Table();
        private int next;
        private int levels;

        Words(Faults faults) {
            this.faults = faults;
        }

        int add(int kind, int text) {
            row.add(kind, text, 0, 0);
            return row.rows();
        }

        int count() {
            return row.rows();
        }

        void clear() {
            row.cut(0);
        }

        void rewind() {
            next = 0;
            levels = 0;
        }

        int at() {
            return next;
        }

        int kind() {
            return row.get(next, 0);
        }

        int kindAt(int number) {
            return row.get(number, 0);
        }

        int textAt(int number) {
            return row.get(number, 1);
        }

        void need(int kind) {
            if (row.get(next, 0) != kind) {
                faults.refuse(Faults.GRAMMAR, next);
            }
        }

        /** Goes behind a word that must be there, and answers its text. */
        int take(int kind) {
            need(kind);
            return skip();
        }

        int skip() {
            int kind = row.get(next, 0);
            if (Kind.closesLevel(kind)) {
                levels--;
            }
            if (Kind.opensLevel(kind)) {
                if (levels >= MOST_LEVELS) {
                    faults.refuse(Faults.LEVELS, next);
                }
                levels++;
            }
            next++;
            return row.get(next - 1, 1);
        }

        /** Whether only labels and ; are left in a block that is no repeat's. */
        boolean atBlockEnd() {
            int look = next;
            boolean more = true;
            for (int n = 0; more && n <= MOST_WORDS; n++) {
                if (kindAt(look) == Kind.SEMICOLON) {
                    look++;
                } else if (kindAt(look) == Kind.DOUBLE_COLON) {
                    look += 3;
                } else {
                    more = false;
                }
            }
            return Kind.endsBlock(kindAt(look)) && kindAt(look) != Kind.UNTIL;
        }
    }

    /** A function: its code, its outer locals, and where its own things begin in the stacks of the scope. */
    private static final class Body {
        static final int OP = 0;
        static final int A = 1;
        static final int B = 2;

        final Table instructions = new Table();
        final Table outers = new Table();
        int number;
        int around;
        int names;
        int dots;
        int words;
        int most;
        int functionWord;
        int firstLocal;
        int firstLabel;
        int firstGoto;
        int firstLoop;

        void reset(int newNumber) {
            number = newNumber;
            around = -1;
            functionWord = -1;
            names = 0;
            dots = 0;
            words = 0;
            most = 0;
            firstLocal = 0;
            firstLabel = 0;
            firstGoto = 0;
            firstLoop = 0;
            instructions.cut(0);
            outers.cut(0);
        }

        void leadHere(int instruction, int column) {
            instructions.set(instruction, column, instructions.rows());
        }

        /** The number of an outer local, a new one if it was not meant before. */
        int outerNumber(int fromSlot, int numberThere) {
            for (int i = 0; i < outers.rows(); i++) {
                if (outers.get(i, 0) == fromSlot && outers.get(i, 1) == numberThere) {
                    return i;
                }
            }
            return outers.add(fromSlot, numberThere, 0, 0);
        }
    }

    /** The functions in their order; they are kept and used again by the next compile. */
    private static final class Bodies {
        private final ArrayList<Body> kept = new ArrayList<>();
        private int count;

        int count() {
            return count;
        }

        void clear() {
            count = 0;
        }

        Body at(int number) {
            return number >= 0 && number < count && number < kept.size() ? kept.get(number) : null;
        }

        Body add() {
            if (count >= kept.size()) {
                kept.add(new Body());
            }
            Body body = kept.get(count);
            body.reset(count);
            count++;
            return body;
        }
    }

    /** Labels and gotos, loops and breaks whose ends are not yet known. */
    private static final class Jumps {
        private final Faults faults;
        private final Table labels = new Table();
        private final Table gotos = new Table();
        private final Table loops = new Table();
        private final Table breaks = new Table();

        Jumps(Faults faults) {
            this.faults = faults;
        }

        void clear() {
            labels.cut(0);
            gotos.cut(0);
            loops.cut(0);
            breaks.cut(0);
        }

        int labels() {
            return labels.rows();
        }

        int gotos() {
            return gotos.rows();
        }

        int loops() {
            return loops.rows();
        }

        /** The first label of a name, from a place in the stack on; -1 when there is none. */
        int labelOf(int text, int first) {
            for (int i = first; i < labels.rows(); i++) {
                if (labels.get(i, 0) == text) {
                    return i;
                }
            }
            return -1;
        }

        void addLabel(int text, int instruction, int locals, boolean atEnd) {
            labels.add(text, instruction, locals, atEnd ? 1 : 0);
        }

        void addGoto(int text, int word, int leave, int locals) {
            gotos.add(text, word, leave, locals);
        }

        /** Leads the gotos of a block to its labels; the others go on in the block around. */
        void closeBlock(Body body, int firstLabel, int firstGoto, int locals) {
            int kept = firstGoto;
            for (int i = firstGoto; i < gotos.rows(); i++) {
                int label = labelOf(gotos.get(i, 0), firstLabel);
                if (label >= 0) {
                    lead(body, i, label);
                } else {
                    keep(i, kept, locals);
                    kept++;
                }
            }
            gotos.cut(kept);
            labels.cut(firstLabel);
        }

        void refuseGotos(int firstGoto) {
            for (int i = firstGoto; i < gotos.rows(); i++) {
                faults.note(Faults.NO_LABEL, gotos.get(i, 1));
            }
            gotos.cut(firstGoto);
        }

        void openLoop(int locals) {
            loops.add(locals, breaks.rows(), 0, 0);
        }

        int loopLocals() {
            return loops.get(loops.rows() - 1, 0);
        }

        void addBreak(int jump) {
            breaks.add(jump, 0, 0, 0);
        }

        /** Leads the breaks of the innermost loop to the next instruction. */
        void closeLoop(Body body) {
            int first = loops.get(loops.rows() - 1, 1);
            for (int i = first; i < breaks.rows(); i++) {
                body.leadHere(breaks.get(i, 0), Body.A);
            }
            breaks.cut(first);
            loops.cut(loops.rows() - 1);
        }

        private void lead(Body body, int leap, int label) {
            int leave = gotos.get(leap, 2);
            body.instructions.set(leave, Body.A, labels.get(label, 2));
            body.instructions.set(leave + 1, Body.A, labels.get(label, 1));
            if (labels.get(label, 2) > gotos.get(leap, 3) && labels.get(label, 3) == 0) {
                faults.note(Faults.OVER_LOCAL, gotos.get(leap, 1));
            }
        }

        private void keep(int from, int to, int locals) {
            gotos.set(to, 0, gotos.get(from, 0));
            gotos.set(to, 1, gotos.get(from, 1));
            gotos.set(to, 2, gotos.get(from, 2));
            gotos.set(to, 3, Math.min(gotos.get(from, 3), locals));
        }
    }

    /** The open functions and blocks with their locals, and what a name means. */
    private static final class Scope {
        static final int HIDDEN = 0;
        static final int VISIBLE = 1;
        static final int CONSTANT = 2;
        static final int CLOSING = 4;

        final Jumps jumps;
        private final Faults faults;
        private final Bodies bodies;
        private final ArrayList<Body> open = new ArrayList<>();
        private final Table locals = new Table();
        private final Table blocks = new Table();
        private Body now = new Body();
        private int meaning;
        private int meantNumber;
        private boolean meantConstant;

        Scope(Faults faults, Bodies bodies) {
            this.faults = faults;
            this.bodies = bodies;
            jumps = new Jumps(faults);
        }

        void clear() {
            jumps.clear();
            open.clear();
            locals.cut(0);
            blocks.cut(0);
        }

        Body now() {
            return now;
        }

        Body beginBody(int functionWord) {
            Body body = bodies.add();
            body.around = open.isEmpty() ? -1 : now.number;
            body.functionWord = functionWord;
            body.firstLocal = locals.rows();
            body.firstLabel = jumps.labels();
            body.firstGoto = jumps.gotos();
            body.firstLoop = jumps.loops();
            open.add(body);
            now = body;
            openBlock();
            return body;
        }

        void endBody() {
            closeBlock();
            jumps.refuseGotos(now.firstGoto);
            if (open.size() > 1) {
                open.remove(open.size() - 1);
                now = open.get(open.size() - 1);
            }
        }

        void openBlock() {
            blocks.add(locals.rows(), jumps.labels(), jumps.gotos(), 0);
        }

        /** How many locals of the function were there before the innermost block. */
        int before() {
            return blocks.get(blocks.rows() - 1, 0) - now.firstLocal;
        }

        boolean blockHasLocals() {
            return count() > before();
        }

        void closeBlock() {
            int block = blocks.rows() - 1;
            jumps.closeBlock(now, blocks.get(block, 1), blocks.get(block, 2), before());
            locals.cut(blocks.get(block, 0));
            blocks.cut(block);
        }

        /** How many locals of the function are there. */
        int count() {
            return locals.rows() - now.firstLocal;
        }

        void declare(int text, int state, int word) {
            if (count() >= MOST_LOCALS) {
                faults.note(Faults.LOCALS, word);
            }
            locals.add(text, state, 0, 0);
            now.most = Math.max(now.most, count());
        }

        void markLatest(int state) {
            int latest = locals.rows() - 1;
            locals.set(latest, 1, locals.get(latest, 1) | state);
        }

        void reveal(int firstSlot) {
            for (int i = now.firstLocal + firstSlot; i < locals.rows(); i++) {
                locals.set(i, 1, locals.get(i, 1) | VISIBLE);
            }
        }

        boolean hasClosing() {
            for (int i = now.firstLocal; i < locals.rows(); i++) {
                if ((locals.get(i, 1) & CLOSING) != 0) {
                    return true;
                }
            }
            return false;
        }

        int meaning() {
            return meaning;
        }

        int meantNumber() {
            return meantNumber;
        }

        boolean meantConstant() {
            return meantConstant;
        }

        void find(int text) {
            int local = visibleLocal(text);
            meantConstant = local >= 0 && (locals.get(local, 1) & CONSTANT) != 0;
            if (local < 0) {
                meaning = Op.GLOBAL;
                meantNumber = text;
            } else if (local >= now.firstLocal) {
                meaning = Op.LOCAL;
                meantNumber = local - now.firstLocal;
            } else {
                meaning = Op.OUTER;
                meantNumber = bringIn(local);
            }
        }

        private int visibleLocal(int text) {
            for (int i = locals.rows() - 1; i >= 0; i--) {
                if (locals.get(i, 0) == text && (locals.get(i, 1) & VISIBLE) != 0) {
                    return i;
                }
            }
            return -1;
        }

        // Every function between the local's own and this one has it as an outer local too.
        private int bringIn(int local) {
            int fromSlot = 1;
            int number = local;
            for (int i = 0; i < open.size(); i++) {
                Body body = open.get(i);
                if (body.firstLocal <= local) {
                    number = local - body.firstLocal;
                } else {
                    number = body.outerNumber(fromSlot, number);
                    fromSlot = 0;
                }
            }
            return number;
        }
    }

    /** Reads the words by the grammar and writes the code as it goes. */
    private static final class Reader {
        static final int SELF_TEXT = -1;
        static final int CONST_TEXT = -2;
        static final int CLOSE_TEXT = -3;
        static final int ONE_TEXT = -4;
        // Forms of a prefix: what its last step is.
        static final int BRACKETS = 0;
        static final int NAME = 1;
        static final int FIELD = 2;
        static final int INDEX = 3;
        static final int CALL = 4;

        private final Words words;
        private final Faults faults;
        private final Scope scope;
        private final Table operators = new Table();
        private final Table targets = new Table();
        private boolean lastIsRow;
        private int stepWord;
        private int stepText;

        Reader(Words words, Faults faults, Bodies bodies) {
            this.words = words;
            this.faults = faults;
            scope = new Scope(faults, bodies);
        }

        void chunk() {
            words.rewind();
            scope.clear();
            operators.cut(0);
            targets.cut(0);
            Body body = scope.beginBody(-1);
            body.dots = 1;
            block();
            words.need(Kind.NONE);
            body.words = words.count();
            emit(Op.RETURN, 0, 0, words.count());
            scope.endBody();
        }

        // The statements are chosen here and not in a method of their own: every open call counts.
        private void block() {
            for (int n = 0; n <= MOST_WORDS; n++) {
                switch (words.kind()) {
                    case Kind.SEMICOLON:
                        words.skip();
                        break;
                    case Kind.NAME:
                    case Kind.ROUND:
                        assignOrCall();
                        break;
                    case Kind.DOUBLE_COLON:
                        label();
                        break;
                    case Kind.BREAK:
                        breakLoop();
                        break;
                    case Kind.GOTO:
                        goTo();
                        break;
                    case Kind.DO:
                        words.skip();
                        innerBlock();
                        words.take(Kind.END);
                        break;
                    case Kind.WHILE:
                        whileLoop();
                        break;
                    case Kind.REPEAT:
                        repeatLoop();
                        break;
                    case Kind.IF:
                        choice();
                        break;
                    case Kind.FOR:
                        if (words.kindAt(words.at() + 2) == Kind.ASSIGN) {
                            numberLoop();
                        } else {
                            listLoop();
                        }
                        break;
                    case Kind.FUNCTION:
                        functionStatement();
                        break;
                    case Kind.LOCAL:
                        if (words.kindAt(words.at() + 1) == Kind.FUNCTION) {
                            localFunction();
                        } else {
                            localNames();
                        }
                        break;
                    case Kind.RETURN:
                        returnValues();
                        return;
                    default:
                        return;
                }
            }
        }

        private void innerBlock() {
            scope.openBlock();
            block();
            if (scope.blockHasLocals()) {
                emit(Op.LEAVE, scope.before(), 0, 0);
            }
            scope.closeBlock();
        }

        private void assignOrCall() {
            int form = prefix();
            if (form == CALL) {
                keepCallFlags(1, 0);
                return;
            }
            int first = targets.rows();
            addTarget(form);
            for (int n = 0; words.kind() == Kind.COMMA && n <= MOST_WORDS; n++) {
                words.skip();
                addTarget(prefix());
            }
            words.take(Kind.ASSIGN);
            fit(targets.rows() - first, list());
            storeTargets(first);
        }

        private void addTarget(int form) {
            switch (form) {
                case NAME:
                    refuseConstant(stepWord);
                    targets.add(Op.setting(scope.meaning()), scope.meantNumber(), stepWord, 0);
                    break;
                case FIELD:
                    emit(Op.TEXT, stepText, 0, 0);
                    targets.add(Op.PUT, 0, stepWord, 0);
                    break;
                case INDEX:
                    targets.add(Op.PUT, 0, stepWord, 0);
                    break;
                default:
                    faults.refuse(Faults.GRAMMAR, words.at());
                    break;
            }
        }

        private void refuseConstant(int word) {
            if (scope.meantConstant()) {
                faults.note(Faults.CONSTANT, word);
            }
        }

        private void storeTargets(int first) {
            int puts = 0;
            for (int i = targets.rows() - 1; i >= first; i--) {
                int number = targets.get(i, 1);
                if (targets.get(i, 0) == Op.PUT) {
                    // Above its key: the later pairs of prefix and key, and the earlier targets' values.
                    number = 2 * puts + i - first;
                    puts++;
                }
                emit(targets.get(i, 0), number, 0, targets.get(i, 2));
            }
            if (puts > 0) {
                emit(Op.DROP, 2 * puts, 0, 0);
            }
            targets.cut(first);
        }

        private void label() {
            words.skip();
            int word = words.at();
            int text = words.take(Kind.NAME);
            words.take(Kind.DOUBLE_COLON);
            if (scope.jumps.labelOf(text, scope.now().firstLabel) >= 0) {
                faults.note(Faults.SECOND_LABEL, word);
            }
            scope.jumps.addLabel(text, here(), scope.count(), words.atBlockEnd());
        }

        private void breakLoop() {
            int word = words.at();
            words.skip();
            if (scope.jumps.loops() == scope.now().firstLoop) {
                faults.note(Faults.BREAK, word);
                return;
            }
            int before = scope.jumps.loopLocals();
            if (scope.count() > before) {
                emit(Op.LEAVE, before, 0, 0);
            }
            scope.jumps.addBreak(emit(Op.JUMP, 0, 0, 0));
        }

        private void goTo() {
            int word = words.at();
            words.skip();
            int text = words.take(Kind.NAME);
            emit(Op.STEP, 0, 0, word);
            int leave = emit(Op.LEAVE, 0, 0, 0);
            emit(Op.JUMP, 0, 0, 0);
            scope.jumps.addGoto(text, word, leave, scope.count());
        }

        private void whileLoop() {
            int start = here();
            emit(Op.STEP, 0, 0, words.at());
            words.skip();
            expression();
            int no = emit(Op.JUMPNO, 0, 0, 0);
            words.take(Kind.DO);
            scope.jumps.openLoop(scope.count());
            innerBlock();
            words.take(Kind.END);
            emit(Op.JUMP, start, 0, 0);
            scope.now().leadHere(no, Body.A);
            scope.jumps.closeLoop(scope.now());
        }

        private void repeatLoop() {
            int start = here();
            emit(Op.STEP, 0, 0, words.at());
            words.skip();
            scope.jumps.openLoop(scope.count());
            scope.openBlock();
            block();
            words.take(Kind.UNTIL);
            expression();
            if (scope.blockHasLocals()) {
                int yes = emit(Op.JUMPYES, 0, 0, 0);
                emit(Op.LEAVE, scope.before(), 0, 0);
                emit(Op.JUMP, start, 0, 0);
                scope.now().leadHere(yes, Body.A);
                emit(Op.LEAVE, scope.before(), 0, 0);
            } else {
                emit(Op.JUMPNO, start, 0, 0);
            }
            scope.closeBlock();
            scope.jumps.closeLoop(scope.now());
        }

        private void choice() {
            int exit = -1;
            int no = condition();
            innerBlock();
            for (int n = 0; words.kind() == Kind.ELSEIF && n <= MOST_WORDS; n++) {
                exit = nextPart(no, exit);
                no = condition();
                innerBlock();
            }
            if (words.kind() == Kind.ELSE) {
                exit = nextPart(no, exit);
                no = -1;
                words.skip();
                innerBlock();
            }
            words.take(Kind.END);
            scope.now().leadHere(no, Body.A);
            leadChainHere(exit);
        }

        private int condition() {
            words.skip();
            expression();
            words.take(Kind.THEN);
            return emit(Op.JUMPNO, 0, 0, 0);
        }

        // Until the end is known, each jump to it tells where the one before it is.
        private int nextPart(int no, int exit) {
            int jump = emit(Op.JUMP, exit, 0, 0);
            scope.now().leadHere(no, Body.A);
            return jump;
        }

        private void leadChainHere(int last) {
            int jump = last;
            for (int n = 0; jump >= 0 && n <= MOST_WORDS; n++) {
                int earlier = scope.now().instructions.get(jump, Body.A);
                scope.now().leadHere(jump, Body.A);
                jump = earlier;
            }
        }

        private void numberLoop() {
            int forWord = words.at();
            words.skip();
            int nameWord = words.at();
            words.take(Kind.NAME);
            words.take(Kind.ASSIGN);
            numberLoopValues();
            words.take(Kind.DO);
            int slot = openHidden(3, Scope.HIDDEN, forWord);
            int begin = emit(Op.FORBEGIN, slot, 0, forWord);
            int start = emit(Op.STEP, 0, 0, forWord);
            emit(Op.ROUND, slot, 0, 0);
            loopBlock(nameWord, 1);
            emit(Op.FORNEXT, slot, start, 0);
            scope.now().leadHere(begin, Body.B);
            closeHidden();
            emit(Op.FOREND, slot, 0, 0);
        }

        private void numberLoopValues() {
            expression();
            words.take(Kind.COMMA);
            expression();
            if (words.kind() == Kind.COMMA) {
                words.skip();
                expression();
            } else {
                emit(Op.NUMBER, ONE_TEXT, 0, 0);
            }
        }

        private void listLoop() {
            int forWord = words.at();
            words.skip();
            int nameWord = words.at();
            int names = 1;
            words.take(Kind.NAME);
            for (int n = 0; words.kind() == Kind.COMMA && n <= MOST_WORDS; n++) {
                words.skip();
                words.take(Kind.NAME);
                names++;
            }
            int inWord = words.at();
            words.take(Kind.IN);
            fit(4, list());
            words.take(Kind.DO);
            int slot = openHidden(4, Scope.CLOSING, forWord);
            emit(Op.EACHBEGIN, slot, 0, forWord);
            int start = emit(Op.STEP, 0, 0, forWord);
            emit(Op.EACH, slot, names, inWord);
            int done = emit(Op.EACHDONE, slot, 0, 0);
            loopBlock(nameWord, names);
            emit(Op.JUMP, start, 0, 0);
            scope.now().leadHere(done, Body.B);
            emit(Op.LEAVE, slot + 4, 0, 0);
            closeHidden();
            emit(Op.FOREND, slot, 0, 0);
        }

        // The hidden locals have a block of their own, so that a goto out of the loop leaves them too.
        private int openHidden(int hidden, int lastState, int forWord) {
            int slot = scope.count();
            scope.openBlock();
            for (int i = 0; i < hidden; i++) {
                scope.declare(0, Scope.HIDDEN, forWord);
            }
            scope.markLatest(lastState);
            scope.jumps.openLoop(scope.count());
            return slot;
        }

        private void closeHidden() {
            scope.closeBlock();
            scope.jumps.closeLoop(scope.now());
        }

        // The loop's names are declared only here, since its values do not see them.
        private void loopBlock(int nameWord, int names) {
            scope.openBlock();
            for (int i = 0; i < names && i <= MOST_WORDS; i++) {
                int word = nameWord + 2 * i;
                scope.declare(words.textAt(word), Scope.VISIBLE, word);
            }
            block();
            words.take(Kind.END);
            emit(Op.LEAVE, scope.before(), 0, 0);
            scope.closeBlock();
        }

        private void functionStatement() {
            int functionWord = words.at();
            words.skip();
            int form = nameAlone();
            for (int n = 0; words.kind() == Kind.DOT && n <= MOST_WORDS; n++) {
                settle(form);
                form = fieldStep();
            }
            boolean withSelf = words.kind() == Kind.COLON;
            if (withSelf) {
                settle(form);
                form = fieldStep();
            }
            int first = targets.rows();
            addTarget(form);
            functionBody(functionWord, withSelf);
            storeTargets(first);
        }

        private void localFunction() {
            int localWord = words.at();
            words.skip();
            int functionWord = words.at();
            words.skip();
            int nameWord = words.at();
            int text = words.take(Kind.NAME);
            int slot = scope.count();
            scope.declare(text, Scope.VISIBLE, nameWord);
            emit(Op.NIL, 0, 0, 0);
            emit(Op.DECLARE, slot, 1, localWord);
            functionBody(functionWord, false);
            emit(Op.SETLOCAL, slot, 0, nameWord);
        }

        private void localNames() {
            int localWord = words.at();
            int firstSlot = scope.count();
            int closeWord = -1;
            int closeSlot = 0;
            boolean more = true;
            for (int n = 0; more && n <= MOST_WORDS; n++) {
                words.skip();
                int nameWord = words.at();
                scope.declare(words.take(Kind.NAME), Scope.HIDDEN, nameWord);
                if (words.kind() == Kind.LESS && attribute(closeWord >= 0)) {
                    closeWord = nameWord;
                    closeSlot = scope.count() - 1;
                }
                more = words.kind() == Kind.COMMA;
            }
            int names = scope.count() - firstSlot;
            int values = 0;
            if (words.kind() == Kind.ASSIGN) {
                words.skip();
                values = list();
            }
            fit(names, values);
            emit(Op.DECLARE, firstSlot, names, localWord);
            scope.reveal(firstSlot);
            if (closeWord >= 0) {
                emit(Op.CLOSING, closeSlot, 0, closeWord);
            }
        }

        /** Reads the attribute of the latest local: whether it is a close. */
        private boolean attribute(boolean closeBefore) {
            words.skip();
            int word = words.at();
            int text = words.take(Kind.NAME);
            words.take(Kind.GREATER);
            boolean close = text == CLOSE_TEXT;
            if (close && closeBefore || !close && text != CONST_TEXT) {
                faults.note(Faults.ATTRIBUTE, word);
            }
            scope.markLatest(close ? Scope.CONSTANT | Scope.CLOSING : Scope.CONSTANT);
            return close;
        }

        private void returnValues() {
            int word = words.at();
            words.skip();
            int values = 0;
            if (words.kind() != Kind.SEMICOLON && !Kind.endsBlock(words.kind())) {
                values = list();
            }
            boolean row = values > 0 && lastIsRow;
            if (row && values == 1 && lastOp() == Op.CALL && !scope.hasClosing()) {
                keepCallFlags(1, 0);
                scope.now().instructions.set(here() - 1, Body.OP, Op.TAIL);
            } else if (row) {
                widen();
                emit(Op.RETURN, values - 1, 1, word);
            } else {
                emit(Op.RETURN, values, 0, word);
            }
            if (words.kind() == Kind.SEMICOLON) {
                words.skip();
            }
        }

        private void functionBody(int functionWord, boolean withSelf) {
            int openWord = words.at();
            words.take(Kind.ROUND);
            Body body = scope.beginBody(functionWord);
            if (withSelf) {
                scope.declare(SELF_TEXT, Scope.VISIBLE, openWord);
            }
            bodyNames(body);
            words.take(Kind.ROUND_END);
            block();
            int endWord = words.at();
            words.take(Kind.END);
            emit(Op.RETURN, 0, 0, endWord);
            body.words = endWord - openWord + 1;
            scope.endBody();
            emit(Op.CLOSURE, body.number, 0, functionWord);
        }

        private void bodyNames(Body body) {
            boolean more = words.kind() != Kind.ROUND_END;
            for (int n = 0; more && n <= MOST_WORDS; n++) {
                more = false;
                if (words.kind() == Kind.DOTS) {
                    words.skip();
                    body.dots = 1;
                } else {
                    int word = words.at();
                    scope.declare(words.take(Kind.NAME), Scope.VISIBLE, word);
                    more = words.kind() == Kind.COMMA;
                }
                if (more) {
                    words.skip();
                }
            }
            body.names = scope.count();
        }

        /** One value each; answers how many, and lastIsRow tells of the last one. */
        private int list() {
            int count = 0;
            boolean more = true;
            for (int n = 0; more && n <= MOST_WORDS; n++) {
                expression();
                count++;
                more = words.kind() == Kind.COMMA;
                if (more) {
                    words.skip();
                }
            }
            return count;
        }

        private void fit(int wanted, int there) {
            if (there > 0 && there <= wanted && lastIsRow) {
                widen();
                emit(Op.FIT, wanted - there + 1, 0, 0);
                return;
            }
            for (int i = there; i < wanted; i++) {
                emit(Op.NIL, 0, 0, 0);
            }
            if (there > wanted) {
                emit(Op.DROP, there - wanted, 0, 0);
            }
        }

        /** Turns the one value of the last instruction, a call or three dots, into an added row. */
        private void widen() {
            if (lastOp() == Op.DOTS) {
                scope.now().instructions.set(here() - 1, Body.B, 0);
            } else {
                keepCallFlags(1, 4);
            }
        }

        private void keepCallFlags(int mask, int more) {
            int last = here() - 1;
            scope.now().instructions.set(last, Body.B, scope.now().instructions.get(last, Body.B) & mask | more);
        }

        private void expression() {
            int base = operators.rows();
            boolean row = false;
            boolean more = true;
            for (int n = 0; more && n <= MOST_WORDS; n++) {
                unaryOperators();
                int form = BRACKETS;
                row = false;
                switch (words.kind()) {
                    case Kind.FUNCTION:
                        words.skip();
                        functionBody(words.at() - 1, false);
                        break;
                    case Kind.CURLY:
                        table();
                        break;
                    case Kind.NAME:
                    case Kind.ROUND:
                        form = prefix();
                        settle(form);
                        row = form == CALL;
                        break;
                    default:
                        row = literal();
                        break;
                }
                row = row && operators.rows() == base;
                more = binaryOperator(base);
            }
            reduce(base, 0);
            lastIsRow = row;
        }

        private void unaryOperators() {
            for (int n = 0; Kind.isUnary(words.kind()) && n <= MOST_WORDS; n++) {
                operators.add(Kind.UNARY_RANK, words.kind(), words.at(), 0);
                words.skip();
            }
        }

        private boolean binaryOperator(int base) {
            int kind = words.kind();
            int rank = Kind.rank(kind);
            if (rank == 0) {
                return false;
            }
            reduce(base, Kind.goesFromRight(kind) ? rank + 1 : rank);
            int jump = -1;
            if (kind == Kind.AND) {
                jump = emit(Op.AND, 0, 0, 0);
            } else if (kind == Kind.OR) {
                jump = emit(Op.OR, 0, 0, 0);
            }
            operators.add(rank, kind, words.at(), jump);
            words.skip();
            return true;
        }

        /** Writes the waiting operators that bind at least so strongly. */
        private void reduce(int base, int rank) {
            int top = operators.rows() - 1;
            while (top >= base && operators.get(top, 0) >= rank) {
                int kind = operators.get(top, 1);
                int word = operators.get(top, 2);
                if (kind == Kind.AND || kind == Kind.OR) {
                    scope.now().leadHere(operators.get(top, 3), Body.A);
                } else if (kind == Kind.NOT) {
                    emit(Op.NOT, 0, 0, word);
                } else if (operators.get(top, 0) == Kind.UNARY_RANK) {
                    emit(Op.UNARY, kind, 0, word);
                } else {
                    emit(Op.BINARY, kind, 0, word);
                }
                operators.cut(top);
                top--;
            }
        }

        /** Reads a word that is a value by itself: whether it is three dots. */
        private boolean literal() {
            int word = words.at();
            int kind = words.kind();
            switch (kind) {
                case Kind.NIL:
                    emit(Op.NIL, 0, 0, 0);
                    break;
                case Kind.FALSE:
                    emit(Op.FALSE, 0, 0, 0);
                    break;
                case Kind.TRUE:
                    emit(Op.TRUE, 0, 0, 0);
                    break;
                case Kind.NUMERAL:
                    emit(Op.NUMBER, words.textAt(word), 0, 0);
                    break;
                case Kind.TEXT:
                    emit(Op.TEXT, words.textAt(word), 0, 0);
                    break;
                case Kind.DOTS:
                    if (scope.now().dots == 0) {
                        faults.note(Faults.DOTS, word);
                    }
                    emit(Op.DOTS, 0, 1, 0);
                    break;
                default:
                    faults.refuse(Faults.GRAMMAR, word);
                    break;
            }
            words.skip();
            return kind == Kind.DOTS;
        }

        /** Reads a prefix; its last step is not written yet, for it may be a target's. */
        private int prefix() {
            int form = head();
            for (int n = 0; n <= MOST_WORDS; n++) {
                int word = words.at();
                switch (words.kind()) {
                    case Kind.DOT:
                        settle(form);
                        form = fieldStep();
                        break;
                    case Kind.SQUARE:
                        settle(form);
                        words.skip();
                        expression();
                        words.take(Kind.SQUARE_END);
                        stepWord = word;
                        form = INDEX;
                        break;
                    case Kind.COLON:
                        settle(form);
                        words.skip();
                        emit(Op.SELF, words.take(Kind.NAME), 0, word);
                        arguments(1);
                        form = CALL;
                        break;
                    case Kind.ROUND:
                    case Kind.CURLY:
                    case Kind.TEXT:
                        settle(form);
                        arguments(0);
                        form = CALL;
                        break;
                    default:
                        return form;
                }
            }
            return form;
        }

        private int head() {
            if (words.kind() == Kind.NAME) {
                return nameAlone();
            }
            words.take(Kind.ROUND);
            expression();
            words.take(Kind.ROUND_END);
            return BRACKETS;
        }

        private int nameAlone() {
            stepWord = words.at();
            scope.find(words.take(Kind.NAME));
            return NAME;
        }

        private int fieldStep() {
            int word = words.at();
            words.skip();
            stepText = words.take(Kind.NAME);
            stepWord = word;
            return FIELD;
        }

        /** Writes the last step of a prefix as one that gives a value. */
        private void settle(int form) {
            if (form == NAME) {
                emit(scope.meaning(), scope.meantNumber(), 0, stepWord);
            } else if (form == FIELD) {
                emit(Op.FIELD, stepText, 0, stepWord);
            } else if (form == INDEX) {
                emit(Op.GET, 0, 0, stepWord);
            }
        }

        private void arguments(int selves) {
            int word = words.at();
            int values = 1;
            int added = 0;
            if (words.kind() == Kind.TEXT) {
                emit(Op.TEXT, words.skip(), 0, 0);
            } else if (words.kind() == Kind.CURLY) {
                table();
            } else {
                words.take(Kind.ROUND);
                values = 0;
                if (words.kind() != Kind.ROUND_END) {
                    values = list();
                    added = lastIsRow ? 1 : 0;
                }
                words.take(Kind.ROUND_END);
            }
            if (added == 1) {
                widen();
            }
            emit(Op.CALL, selves + values - added, added + 2, word);
        }

        private void table() {
            emit(Op.TABLE, 0, 0, words.at());
            words.take(Kind.CURLY);
            int appended = 0;
            boolean more = true;
            for (int n = 0; more && words.kind() != Kind.CURLY_END && n <= MOST_WORDS; n++) {
                appended = field(appended);
                more = isSeparator(words.kind());
                if (more) {
                    words.skip();
                }
            }
            words.take(Kind.CURLY_END);
        }

        private int field(int appended) {
            int word = words.at();
            if (words.kind() == Kind.SQUARE) {
                words.skip();
                expression();
                words.take(Kind.SQUARE_END);
                words.take(Kind.ASSIGN);
                expression();
                emit(Op.ITEM, 0, 0, word);
                return appended;
            }
            if (words.kind() == Kind.NAME && words.kindAt(word + 1) == Kind.ASSIGN) {
                int text = words.skip();
                words.skip();
                expression();
                emit(Op.NAMED, text, 0, word);
                return appended;
            }
            expression();
            if (lastIsRow && tableEnds()) {
                widen();
                emit(Op.APPENDALL, appended + 1, 0, word);
            } else {
                emit(Op.APPEND, appended + 1, 0, word);
            }
            return appended + 1;
        }

        private boolean tableEnds() {
            int look = words.at();
            if (isSeparator(words.kindAt(look))) {
                look++;
            }
            return words.kindAt(look) == Kind.CURLY_END;
        }

        private static boolean isSeparator(int kind) {
            return kind == Kind.COMMA || kind == Kind.SEMICOLON;
        }

        private int emit(int op, int a, int b, int w) {
            return scope.now().instructions.add(op, a, b, w);
        }

        private int here() {
            return scope.now().instructions.rows();
        }

        private int lastOp() {
            return scope.now().instructions.get(here() - 1, Body.OP);
        }
    }

    /** Goes over written code: how high its stack grows, and what is wrong in it. */
    private static final class Audit {
        private final Bodies bodies;

        Audit(Bodies bodies) {
            this.bodies = bodies;
        }

        int greatest(Body body) {
            int stack = 0;
            int greatest = 0;
            for (int i = 0; i < body.instructions.rows(); i++) {
                stack += change(body, i);
                greatest = Math.max(greatest, stack);
            }
            return greatest;
        }

        int flawedOfAll() {
            int flawed = 0;
            for (int f = 0; f < bodies.count(); f++) {
                Body body = bodies.at(f);
                if (body != null) {
                    flawed += flawedOf(body);
                }
            }
            return flawed;
        }

        private int flawedOf(Body body) {
            int stack = 0;
            int flawed = 0;
            for (int i = 0; i < body.instructions.rows(); i++) {
                int op = body.instructions.get(i, Body.OP);
                boolean wrong = op == Op.STEP && stack != 0
                    || i == body.instructions.rows() - 1 && op != Op.RETURN;
                stack += change(body, i);
                if (wrong || stack < 0 || leadsNowhere(body, i) || meansNothing(body, i)) {
                    flawed++;
                }
            }
            return flawed;
        }

        private static int change(Body body, int i) {
            int op = body.instructions.get(i, Body.OP);
            int a = body.instructions.get(i, Body.A);
            int b = body.instructions.get(i, Body.B);
            if (op >= Op.NIL && op <= Op.GLOBAL) {
                return 1;
            }
            switch (op) {
                case Op.SELF:
                case Op.TABLE:
                    return 1;
                case Op.FIELD:
                case Op.NOT:
                case Op.UNARY:
                case Op.CLOSING:
                case Op.LEAVE:
                case Op.STEP:
                case Op.JUMP:
                case Op.ROUND:
                case Op.FORNEXT:
                case Op.FOREND:
                case Op.EACH:
                case Op.EACHDONE:
                    return 0;
                case Op.CALL:
                    return ((b & 6) != 0 ? 1 : 0) - a - 1 - (b & 1);
                case Op.FIT:
                    return a - 1;
                case Op.DROP:
                    return -a;
                case Op.DECLARE:
                    return -b;
                case Op.ITEM:
                    return -2;
                case Op.FORBEGIN:
                    return -3;
                case Op.EACHBEGIN:
                    return -4;
                case Op.RETURN:
                    return -a - b;
                case Op.TAIL:
                    return -a - 1 - b;
                default:
                    return -1;
            }
        }

        private static boolean leadsNowhere(Body body, int i) {
            int end;
            switch (body.instructions.get(i, Body.OP)) {
                case Op.AND:
                case Op.OR:
                case Op.JUMP:
                case Op.JUMPNO:
                case Op.JUMPYES:
                    end = body.instructions.get(i, Body.A);
                    break;
                case Op.FORBEGIN:
                case Op.FORNEXT:
                case Op.EACHDONE:
                    end = body.instructions.get(i, Body.B);
                    break;
                default:
                    return false;
            }
            return end < 0 || end >= body.instructions.rows();
        }

        private boolean meansNothing(Body body, int i) {
            int a = body.instructions.get(i, Body.A);
            switch (body.instructions.get(i, Body.OP)) {
                case Op.LOCAL:
                case Op.SETLOCAL:
                case Op.CLOSING:
                case Op.FORBEGIN:
                case Op.FORNEXT:
                case Op.FOREND:
                    return isNoSlot(body, a, a);
                case Op.DECLARE:
                    return isNoSlot(body, a, a + body.instructions.get(i, Body.B) - 1);
                case Op.ROUND:
                case Op.EACHBEGIN:
                    return isNoSlot(body, a, a + 3);
                case Op.EACH:
                    return isNoSlot(body, a, a + 3 + body.instructions.get(i, Body.B));
                case Op.EACHDONE:
                    return isNoSlot(body, a, a + 4);
                case Op.LEAVE:
                    return a < 0 || a > body.most;
                case Op.OUTER:
                case Op.SETOUTER:
                    return !body.outers.has(a);
                case Op.CLOSURE:
                    return isNotIn(body, a);
                default:
                    return false;
            }
        }

        private boolean isNotIn(Body body, int number) {
            Body made = bodies.at(number);
            return made == null || made.around != body.number;
        }

        private static boolean isNoSlot(Body body, int first, int last) {
            return first < 0 || last >= body.most;
        }
    }
}
