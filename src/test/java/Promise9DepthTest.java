/** Promise 9: depth is the greatest number of values on the stack of a function. */
public final class Promise9DepthTest {
    public static void main(String[] args) throws ReflectiveOperationException {
        Check check = new Check();
        values(check);
        calls(check);
        statements(check);
        loops(check);
        ofEachFunction(check);
        noneSuch(check);
        asIfNoJumpWereMade(check);
        ofEachInstruction(check);
        check.end();
    }

    private static void depth(Check check, int due, String source) {
        check.same("depth of " + source, due, Check.compiled(source).depth(0));
    }

    private static void values(Check check) {
        depth(check, 0, "");
        depth(check, 0, "return");
        depth(check, 1, "return 1");
        depth(check, 6, "return nil , false , true , 1 , \"s\" , ...");
        depth(check, 2, "return a + b + c");
        depth(check, 3, "return a .. b .. c");
        depth(check, 3, "return a + b * c");
        depth(check, 1, "return a and b and c");
        depth(check, 1, "return a or b or c");
        depth(check, 1, "return not - # ~ a");
        depth(check, 1, "return a . b . c");
        depth(check, 2, "return a [ b ] [ c ]");
        depth(check, 2, "return { 1 , 2 , 3 }");
        depth(check, 2, "return { a = 1 , b = 2 }");
        depth(check, 3, "return { [ 1 ] = 2 , [ 3 ] = 4 }");
        depth(check, 2, "return { f ( ) }");
        depth(check, 4, "return { { { { } } } }");
        depth(check, 1, "return function ( ) end");
    }

    private static void calls(Check check) {
        depth(check, 1, "f ( )");
        depth(check, 3, "f ( 1 , 2 )");
        depth(check, 2, "f ( g ( ) )");
        depth(check, 2, "f ( ... )");
        depth(check, 2, "a : b ( )");
        depth(check, 3, "a : b { }");
        depth(check, 4, "a : b ( 1 , ... )");
        depth(check, 1, "f ( ) f ( )");
        depth(check, 1, "f ( ) ( ) ( )");
        depth(check, 1, "return f ( )");
        depth(check, 3, "return f ( 1 , ... )");
        depth(check, 2, "return 1 , f ( )");
    }

    private static void statements(Check check) {
        depth(check, 1, "local a");
        depth(check, 3, "local a , b , c");
        depth(check, 3, "local a = 1 , 2 , 3");
        depth(check, 5, "local a , b , c , d , e = f ( )");
        depth(check, 2, "local a < const > , b < close > = 1 , 2");
        depth(check, 1, "a = 1 b = 2");
        depth(check, 3, "a . b = 1");
        depth(check, 6, "a . b , c [ d ] = 1 , 2");
        depth(check, 2, "a , b = f ( )");
        depth(check, 1, "function a ( ) end");
        depth(check, 3, "function a . b ( ) end");
        depth(check, 1, "local function a ( ) end");
        depth(check, 0, ":: a :: goto a");
    }

    private static void loops(Check check) {
        depth(check, 1, "if a then elseif b then end");
        depth(check, 1, "while a do end");
        depth(check, 1, "repeat local a until a");
        depth(check, 3, "for i = 1 , 2 do end");
        depth(check, 4, "for i = 1 , 2 do f ( 1 , 2 , 3 ) end");
        depth(check, 4, "for i in a do end");
        depth(check, 4, "for i in f ( ) do end");
        depth(check, 5, "for i in 1 , 2 , 3 , 4 , 5 do end");
        depth(check, 1, "while a do break end");
    }

    private static void ofEachFunction(Check check) {
        ChunkCode chunk = Check.compiled("a = function ( ) return 1 , 2 , 3 end b = function ( ) end");
        check.same("depth of 0", 1, chunk.depth(0));
        check.same("depth of 1", 3, chunk.depth(1));
        check.same("depth of 2", 0, chunk.depth(2));
    }

    private static void noneSuch(Check check) {
        ChunkCode chunk = Check.compiled("a = function ( ) end");
        for (int f : new int[] {-1, 2, Integer.MIN_VALUE, Integer.MAX_VALUE}) {
            check.same("depth of " + f, ChunkCode.BAD, chunk.depth(f));
        }
        check.same("of a new object", 0, new ChunkCode().depth(0));
        check.same("of no function", ChunkCode.BAD, new ChunkCode().depth(1));
        check.same("after a fault", ChunkCode.BAD, Check.compiled("break").depth(0));
    }

    // "behind any instruction of a function, taken in the order of its row as if no jump were made"
    private static void asIfNoJumpWereMade(Check check) {
        depth(check, 2, "if a then return 1 , 2 end return 3");
        depth(check, 3, "if a then return end return 1 , 2 , 3");
        depth(check, 2, "return a and b + c or d");
        depth(check, 2, ":: a :: goto a b = 1 + 2");
        depth(check, 4, "do return f ( 1 , 2 , 3 ) end");
        depth(check, 1, "return 1");
        depth(check, 0, "; ; :: a ::");
    }

    /** Nine values, the instruction, twelve values more: 21 and what the instruction changes. */
    private static void ofEachInstruction(Check check) throws ReflectiveOperationException {
        changes(check, 1, 3, 0, "NIL", "FALSE", "TRUE", "NUMBER", "TEXT", "DOTS", "CLOSURE", "LOCAL", "OUTER", "GLOBAL",
            "SELF", "TABLE");
        changes(check, 1, 0, 1, "DOTS");
        changes(check, 0, 3, 2, "FIELD", "NOT", "UNARY", "CLOSING", "LEAVE", "STEP", "JUMP", "ROUND", "FORNEXT", "FOREND",
            "EACH", "EACHDONE");
        changes(check, -1, 3, 2, "GET", "AND", "OR", "BINARY", "NAMED", "APPEND", "APPENDALL", "SETLOCAL", "SETOUTER",
            "SETGLOBAL", "PUT", "JUMPNO", "JUMPYES");
        changes(check, -2, 3, 1, "ITEM");
        changes(check, -3, 5, 1, "FORBEGIN");
        changes(check, -4, 5, 1, "EACHBEGIN");
        for (int a = 0; a <= 3; a++) {
            changes(check, -a - 1, a, 0, "CALL", "TAIL");
            changes(check, -a - 2, a, 1, "CALL", "TAIL");
            changes(check, -a, a, 2, "CALL");
            changes(check, -a - 1, a, 3, "CALL");
            changes(check, -a, a, 4, "CALL");
            changes(check, -a - 1, a, 5, "CALL");
            changes(check, -a, a, 0, "RETURN", "DROP");
            changes(check, -a - 1, a, 1, "RETURN");
            changes(check, -a, 7, a, "DECLARE");
            changes(check, a, a + 1, 0, "FIT");
        }
    }

    private static void changes(Check check, int due, int a, int b, String... names) throws ReflectiveOperationException {
        for (String name : names) {
            ChunkCode chunk = Check.compiled("return " + Check.times(21, "1 ,") + "1");
            Check.damage(chunk, 0, 9, 0, Check.op(name));
            Check.damage(chunk, 0, 9, 1, a);
            Check.damage(chunk, 0, 9, 2, b);
            check.same(name + " " + a + " " + b + " changes the stack by", due, chunk.depth(0) - 21);
        }
    }
}
