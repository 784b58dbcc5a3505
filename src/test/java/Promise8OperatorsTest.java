/** Promise 8: which operator binds which values, for every two binary operators, with and without a unary one. */
public final class Promise8OperatorsTest {
    private static final Check CHECK = new Check();
    // "Binary operators by ranks, those that bind least first"
    private static final String[][] RANKS = {{"or"}, {"and"}, {"<", ">", "<=", ">=", "~=", "=="}, {"|"}, {"~"}, {"&"},
        {"<<", ">>"}, {".."}, {"+", "-"}, {"*", "/", "//", "%"}, {"^"}};
    private static final String[] UNARY = {"not", "#", "-", "~"};

    public static void main(String[] args) {
        for (int i = 0; i < RANKS.length; i++) {
            for (String first : RANKS[i]) {
                unaryOnes(first);
                for (int j = 0; j < RANKS.length; j++) {
                    for (String second : RANKS[j]) {
                        two(first, second, leftFirst(i, j));
                    }
                }
            }
        }
        unaryOnesInARow();
        three();
        CHECK.end();
    }

    /** "Of the same rank they go from the left, .. and ^ from the right." */
    private static boolean leftFirst(int first, int second) {
        boolean fromTheRight = RANKS[first][0].equals("..") || RANKS[first][0].equals("^");
        return first > second || first == second && !fromTheRight;
    }

    private static void due(String source, Row row) {
        CHECK.code(0, "return " + source, row.code + "RETURN 1; RETURN 0 0 " + (1 + Check.length(source)));
    }

    private static void two(String first, String second, boolean leftFirst) {
        Row plain = new Row();
        plain.name(1);
        plain.operate(first, 2, () -> {
            plain.name(3);
            if (!leftFirst) {
                plain.operate(second, 4, () -> plain.name(5));
            }
        });
        if (leftFirst) {
            plain.operate(second, 4, () -> plain.name(5));
        }
        due("a " + first + " c " + second + " e", plain);
        withUnary(first, second, leftFirst);
    }

    // "then the unary ones not # - ~; then ^"; "what is behind ^ may begin with unary operators"
    private static void withUnary(String first, String second, boolean leftFirst) {
        Row row = new Row();
        row.name(1);
        boolean power = second.equals("^");
        boolean inner = power || !leftFirst;
        row.operate(first, 2, () -> {
            row.name(4);
            if (power) {
                row.operate(second, 5, () -> row.name(6));
            }
            row.unary("-", 3);
            if (inner && !power) {
                row.operate(second, 5, () -> row.name(6));
            }
        });
        if (!inner) {
            row.operate(second, 5, () -> row.name(6));
        }
        due("a " + first + " - d " + second + " f", row);
    }

    private static void unaryOnes(String binary) {
        for (String unary : UNARY) {
            Row before = new Row();
            before.name(2);
            if (binary.equals("^")) {
                before.operate(binary, 3, () -> before.name(4));
                before.unary(unary, 1);
            } else {
                before.unary(unary, 1);
                before.operate(binary, 3, () -> before.name(4));
            }
            due(unary + " b " + binary + " d", before);
            Row behind = new Row();
            behind.name(1);
            behind.operate(binary, 2, () -> {
                behind.name(4);
                behind.unary(unary, 3);
            });
            due("a " + binary + " " + unary + " d", behind);
        }
    }

    private static void unaryOnesInARow() {
        for (String outer : UNARY) {
            for (String inner : UNARY) {
                Row row = new Row();
                row.name(3);
                row.unary(inner, 2);
                row.unary(outer, 1);
                due(outer + " " + inner + " c", row);
            }
        }
    }

    private static void three() {
        CHECK.code(0, "return a ^ - b ^ c * d", "GLOBAL 1 0 1; GLOBAL 2 0 4; GLOBAL 3 0 6; BINARY 45 0 5; UNARY 41 0 3; "
            + "BINARY 45 0 2; GLOBAL 4 0 8; BINARY 42 0 7; RETURN 1; RETURN 0 0 9");
        CHECK.code(0, "return a .. b .. c + d", "GLOBAL 1 0 1; GLOBAL 2 0 3; GLOBAL 3 0 5; GLOBAL 4 0 7; BINARY 40 0 6; "
            + "BINARY 71 0 4; BINARY 71 0 2; RETURN 1; RETURN 0 0 8");
        CHECK.code(0, "return a or b and c or d", "GLOBAL 1 0 1; OR 5; GLOBAL 2 0 3; AND 5; GLOBAL 3 0 5; OR 7; "
            + "GLOBAL 4 0 7; RETURN 1; RETURN 0 0 8");
        CHECK.code(0, "return ( a or b ) and c", "GLOBAL 1 0 2; OR 3; GLOBAL 2 0 4; AND 5; GLOBAL 3 0 7; RETURN 1; "
            + "RETURN 0 0 8");
        CHECK.code(0, "return - ( a ) . b", "GLOBAL 1 0 3; FIELD 2 0 5; UNARY 41 0 1; RETURN 1; RETURN 0 0 7");
    }

    /** Code that is due, as far as it is written; the name at word w is the w-th letter. */
    private static final class Row {
        private String code = "";
        private int count;

        private void add(String instruction) {
            code += instruction + "; ";
            count++;
        }

        void name(int word) {
            add("GLOBAL " + word + " 0 " + word);
        }

        void unary(String sign, int word) {
            add(sign.equals("not") ? "NOT 0 0 " + word : "UNARY " + Check.kind(sign) + " 0 " + word);
        }

        /** The left value stands already: "e, AND L, f, where L is behind f", or "e, f, BINARY". */
        void operate(String sign, int word, Runnable right) {
            boolean jump = sign.equals("and") || sign.equals("or");
            String before = code;
            if (jump) {
                add("JUMP");
            }
            int length = code.length();
            right.run();
            if (jump) {
                String behind = code.substring(length);
                code = before + (sign.equals("and") ? "AND " : "OR ") + count + "; " + behind;
            } else {
                add("BINARY " + Check.kind(sign) + " 0 " + word);
            }
        }
    }
}
