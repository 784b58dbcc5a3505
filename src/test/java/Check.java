import java.lang.reflect.Field;
import java.lang.reflect.Method;

/** What the tests share: programs written as text, code written as text, and counting of wrong answers. */
final class Check {
    private static final String[] RESERVED = {
        "and", "break", "do", "else", "elseif", "end", "false", "for", "function", "goto", "if", "in",
        "local", "nil", "not", "or", "repeat", "return", "then", "true", "until", "while"};
    private static final String[] SIGNS = {
        "+", "-", "*", "/", "%", "^", "#", "&", "~", "|", "<<", ">>", "//", "==", "~=", "<=", ">=", "<", ">",
        "=", "(", ")", "{", "}", "[", "]", "::", ";", ":", ",", ".", "..", "..."};
    private static final String[] SPECIAL = {"self", "const", "close"};
    private static final String[] OPS = {
        "?", "NIL", "FALSE", "TRUE", "NUMBER", "TEXT", "DOTS", "CLOSURE", "LOCAL", "OUTER", "GLOBAL", "GET",
        "FIELD", "CALL", "SELF", "AND", "OR", "NOT", "UNARY", "BINARY", "TABLE", "ITEM", "NAMED", "APPEND",
        "APPENDALL", "FIT", "DROP", "DECLARE", "CLOSING", "SETLOCAL", "SETOUTER", "SETGLOBAL", "PUT", "LEAVE",
        "STEP", "JUMPNO", "JUMP", "JUMPYES", "FORBEGIN", "ROUND", "FORNEXT", "FOREND", "EACHBEGIN", "EACH",
        "EACHDONE", "RETURN", "TAIL"};

    private int wrong;
    private int checks;

    void same(String what, int due, int got) {
        same(what, String.valueOf(due), String.valueOf(got));
    }

    void same(String what, String due, String got) {
        checks++;
        if (!due.equals(got)) {
            wrong++;
            System.out.println(what);
            System.out.println("    due: " + due);
            System.out.println("    got: " + got);
        }
    }

    /** Ends the test: exit code 1 if an answer was wrong, or if nothing was asked. */
    void end() {
        if (wrong > 0 || checks == 0) {
            System.out.println(wrong + " of " + checks + " answers are wrong");
            System.exit(1);
        }
    }

    /** Gives the words of a text, parted by blanks: a name is letters, a numeral digits, a text "a". */
    static int give(ChunkCode chunk, String source) {
        int count = 0;
        for (String word : source.trim().split("\\s+")) {
            if (!word.isEmpty()) {
                count = chunk.word(kind(word), text(word));
            }
        }
        return count;
    }

    static ChunkCode compiled(String source) {
        ChunkCode chunk = new ChunkCode();
        give(chunk, source);
        chunk.compile();
        return chunk;
    }

    /** What compile and place answer of a text: its fault and where, or how many functions. */
    static String outcome(String source) {
        ChunkCode chunk = new ChunkCode();
        give(chunk, source);
        int answer = chunk.compile();
        return answer < 0 ? "fault " + -answer + " at " + chunk.place() : "no fault";
    }

    void fault(int kind, int place, String source) {
        same(source, "fault " + kind + " at " + place, outcome(source));
    }

    void noFault(String source) {
        same(source, "no fault", outcome(source));
    }

    void code(int f, String source, String due) {
        same("function " + f + " of " + source, due, listing(compiled(source), f));
    }

    /** How many words a text has. */
    static int length(String source) {
        return source.isBlank() ? 0 : source.trim().split("\\s+").length;
    }

    static String times(int count, String part) {
        return (part + " ").repeat(count);
    }

    static int kind(String word) {
        int reserved = indexOf(RESERVED, word);
        int sign = indexOf(SIGNS, word);
        if (reserved >= 0) {
            return 10 + reserved;
        }
        if (sign >= 0) {
            return 40 + sign;
        }
        char first = word.charAt(0);
        return first == '"' ? 3 : Character.isDigit(first) ? 2 : 1;
    }

    /** a to z have the texts 1 to 26, a numeral its number, "a" to "z" 101 to 126. */
    static int text(String word) {
        int special = indexOf(SPECIAL, word);
        switch (kind(word)) {
            case 1:
                return special >= 0 ? -1 - special : number(word);
            case 2:
                return Integer.parseInt(word);
            case 3:
                return 100 + number(word.substring(1, word.length() - 1));
            default:
                return 0;
        }
    }

    /** All instructions of a function, as "OP a b w", with 0s at the end left out. */
    static String listing(ChunkCode chunk, int f) {
        StringBuilder rows = new StringBuilder();
        for (int i = 0; i < chunk.function(f, 6); i++) {
            if (i > 0) {
                rows.append("; ");
            }
            rows.append(OPS[chunk.code(f, i, 0)]);
            int last = 3;
            while (last > 0 && chunk.code(f, i, last) == 0) {
                last--;
            }
            for (int what = 1; what <= last; what++) {
                rows.append(' ').append(chunk.code(f, i, what));
            }
        }
        return rows.toString();
    }

    // No run of calls makes an instruction that is flawed, so a test that wants one must reach into the object.
    static void damage(ChunkCode chunk, int f, int i, int what, int value) throws ReflectiveOperationException {
        Object bodies = field(chunk, "bodies");
        Method at = bodies.getClass().getDeclaredMethod("at", int.class);
        at.setAccessible(true);
        Object instructions = field(at.invoke(bodies, f), "instructions");
        Method set = instructions.getClass().getDeclaredMethod("set", int.class, int.class, int.class);
        set.setAccessible(true);
        set.invoke(instructions, i, what, value);
    }

    static int op(String name) {
        return indexOf(OPS, name);
    }

    private static Object field(Object owner, String name) throws ReflectiveOperationException {
        Field field = owner.getClass().getDeclaredField(name);
        field.setAccessible(true);
        return field.get(owner);
    }

    private static int number(String letters) {
        int number = 0;
        for (char letter : letters.toCharArray()) {
            number = number * 27 + letter - 'a' + 1;
        }
        return number;
    }

    private static int indexOf(String[] words, String word) {
        for (int i = 0; i < words.length; i++) {
            if (words[i].equals(word)) {
                return i;
            }
        }
        return -1;
    }
}
