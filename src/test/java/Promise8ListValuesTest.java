/**
 * Promise 8: "n VALUES of a list with m expressions", for m below, at and above n, with and without an added row,
 * and for no list. The rows that are due are written here from the document's words, part by part.
 */
public final class Promise8ListValuesTest {
    private static final Check CHECK = new Check();
    private static final String NUMERAL = "7";
    private static final String CALL = "f ( )";
    private static final String DOTS = "...";
    private static final String CALL_IN_BRACKETS = "( f ( ) )";
    private static final String DOTS_IN_BRACKETS = "( ... )";
    private static final String METHOD = "f : g { }";
    private static final String CALL_IN_SUM = "1 + f ( )";
    private static final String[] FORMS = {NUMERAL, CALL, DOTS, CALL_IN_BRACKETS, DOTS_IN_BRACKETS, METHOD, CALL_IN_SUM};

    public static void main(String[] args) {
        for (int n = 1; n <= 6; n++) {
            noList(n);
            for (int m = 1; m <= 7; m++) {
                for (String last : FORMS) {
                    ofLocal(n, m, last);
                    ofTargets(n, m, last);
                }
            }
        }
        for (int m = 1; m <= 7; m++) {
            for (String last : FORMS) {
                ofForWithAList(m, last);
            }
        }
        noListBehindARow();
        manyValues();
        CHECK.end();
    }

    private static String join(int count, String part, String last) {
        return (part + " , ").repeat(count - 1) + last;
    }

    // "(For no list: n times NIL.)"
    private static void noList(int n) {
        CHECK.code(0, "local " + join(n, "a", "a"), "NIL; ".repeat(n) + "DECLARE 0 " + n + "; RETURN 0 0 " + 2 * n);
    }

    // What a list before it ended with is no matter.
    private static void noListBehindARow() {
        CHECK.code(0, "local a = ... local b",
            "DOTS; FIT 1; DECLARE 0 1; NIL; DECLARE 1 1 4; RETURN 0 0 6");
    }

    private static void ofLocal(int n, int m, String last) {
        String before = "local " + join(n, "a", "a") + " = ";
        String source = before + join(m, CALL, last);
        CHECK.code(0, source, values(n, m, last, Check.length(before))
            + "DECLARE 0 " + n + "; RETURN 0 0 " + Check.length(source));
    }

    private static void ofTargets(int n, int m, String last) {
        String before = join(n, "a", "a") + " = ";
        String source = before + join(m, CALL, last);
        StringBuilder due = new StringBuilder(values(n, m, last, Check.length(before)));
        for (int i = n - 1; i > 0; i--) {
            due.append("SETGLOBAL 1 0 ").append(2 * i).append("; ");
        }
        CHECK.code(0, source, due + "SETGLOBAL 1; RETURN 0 0 " + Check.length(source));
    }

    // "4 values of it"
    private static void ofForWithAList(int m, String last) {
        String source = "for i in " + join(m, CALL, last) + " do end";
        String values = values(4, m, last, 3);
        int begin = values.split("; ").length;
        CHECK.code(0, source, values + "EACHBEGIN; STEP; EACH 0 1 2; EACHDONE 0 " + (begin + 6) + "; LEAVE 4; JUMP "
            + (begin + 1) + "; LEAVE 4; FOREND; RETURN 0 0 " + Check.length(source));
    }

    /** All but the last are calls, so that one that is not cut to one value is seen. */
    private static String values(int n, int m, String last, int firstWord) {
        StringBuilder due = new StringBuilder();
        for (int i = 0; i < m - 1; i++) {
            int word = firstWord + 4 * i;
            due.append("GLOBAL 6 0 ").append(word).append("; CALL 0 2 ").append(word + 1).append("; ");
        }
        int word = firstWord + 4 * (m - 1);
        boolean row = last.equals(CALL) || last.equals(DOTS) || last.equals(METHOD);
        if (row && m <= n) {
            return due + value(last, word, true) + "FIT " + (n - m + 1) + "; ";
        }
        due.append(value(last, word, false));
        if (m < n) {
            due.append("NIL; ".repeat(n - m));
        }
        if (m > n) {
            due.append("DROP ").append(m - n).append("; ");
        }
        return due.toString();
    }

    private static String value(String form, int word, boolean added) {
        int bits = added ? 4 : 2;
        switch (form) {
            case NUMERAL:
                return "NUMBER 7; ";
            case CALL:
                return "GLOBAL 6 0 " + word + "; CALL 0 " + bits + " " + (word + 1) + "; ";
            case DOTS:
                return added ? "DOTS; " : "DOTS 0 1; ";
            case CALL_IN_BRACKETS:
                return "GLOBAL 6 0 " + (word + 1) + "; CALL 0 2 " + (word + 2) + "; ";
            case DOTS_IN_BRACKETS:
                return "DOTS 0 1; ";
            case METHOD:
                return "GLOBAL 6 0 " + word + "; SELF 7 0 " + (word + 1) + "; TABLE 0 0 " + (word + 3) + "; CALL 2 " + bits
                    + " " + (word + 3) + "; ";
            default:
                return "NUMBER 1; GLOBAL 6 0 " + (word + 2) + "; CALL 0 2 " + (word + 3) + "; BINARY 40 0 " + (word + 1)
                    + "; ";
        }
    }

    private static void manyValues() {
        ChunkCode chunk = Check.compiled("local " + join(200, "a", "a") + " = ...");
        CHECK.same("all names by one row", "DOTS; FIT 200; DECLARE 0 200; RETURN 0 0 402", Check.listing(chunk, 0));
        CHECK.same("depth", 200, chunk.depth(0));
        chunk = Check.compiled("a = " + join(150, "1", "..."));
        CHECK.same("too many are dropped", 26, chunk.code(0, 150, 0));
        CHECK.same("all but one", 149, chunk.code(0, 150, 1));
        CHECK.same("one value of the last one", 1, chunk.code(0, 149, 2));
    }
}
