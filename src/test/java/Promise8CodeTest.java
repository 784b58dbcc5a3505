/** Promise 8: code tells op, a, b and w of each instruction; BAD when there is none such. */
public final class Promise8CodeTest {
    public static void main(String[] args) {
        Check check = new Check();
        values(check);
        prefixes(check);
        calls(check);
        operators(check);
        tables(check);
        lists(check);
        locals(check);
        targets(check);
        functions(check);
        blocks(check);
        whiles(check);
        repeats(check);
        ifs(check);
        fors(check);
        returns(check);
        gotos(check);
        hiddenLocalsHaveNoName(check);
        noneSuch(check);
        check.end();
    }

    private static void code(Check check, int f, String source, String due) {
        check.same("function " + f + " of " + source, due, Check.listing(Check.compiled(source), f));
    }

    // Any number may be a name's text, so none of them may mean a hidden local.
    private static void hiddenLocalsHaveNoName(Check check) {
        for (int text = -10; text <= 10; text++) {
            ChunkCode chunk = new ChunkCode();
            Check.give(chunk, "for i in z do for i = 1 , 2 do local x");
            chunk.word(1, text);
            Check.give(chunk, "= 1 end end");
            check.same("a name with text " + text, 1, chunk.compile());
            check.same("a global with text " + text, text == 9 ? 29 : 31, chunk.code(0, 17, 0));
        }
    }

    private static void noneSuch(Check check) {
        ChunkCode chunk = Check.compiled("a = function ( ) end");
        check.same("op", 7, chunk.code(0, 0, 0));
        check.same("a", 1, chunk.code(0, 0, 1));
        check.same("b", 0, chunk.code(0, 0, 2));
        check.same("w", 2, chunk.code(0, 0, 3));
        check.same("the last one", 45, chunk.code(0, 2, 0));
        check.same("the other function's", 45, chunk.code(1, 0, 0));
        int[][] wrong = {{0, 3, 0}, {0, -1, 0}, {1, 1, 0}, {2, 0, 0}, {-1, 0, 0}, {0, 0, 4}, {0, 0, -1},
            {Integer.MIN_VALUE, 0, 0}, {Integer.MAX_VALUE, 0, 0}, {0, Integer.MIN_VALUE, 0},
            {0, Integer.MAX_VALUE, 0}, {0, 0, Integer.MIN_VALUE}, {0, 0, Integer.MAX_VALUE}, {0, 1 << 30, 0}};
        for (int[] w : wrong) {
            check.same("code " + w[0] + " " + w[1] + " " + w[2], ChunkCode.BAD, chunk.code(w[0], w[1], w[2]));
        }
        Check.give(chunk, "a = 1");
        check.same("words alone change nothing", 7, chunk.code(0, 0, 0));
        chunk.compile();
        check.same("the latest compile's", 4, chunk.code(0, 0, 0));
        check.same("the former function is gone", ChunkCode.BAD, chunk.code(1, 0, 0));
    }

    private static void values(Check check) {
        code(check, 0, "return nil , false , true , 5 , \"s\" , ...",
            "NIL; FALSE; TRUE; NUMBER 5; TEXT 119; DOTS; RETURN 5 1; RETURN 0 0 12");
        code(check, 0, "return ( ... )", "DOTS 0 1; RETURN 1; RETURN 0 0 4");
        code(check, 0, "return ... , 1", "DOTS 0 1; NUMBER 1; RETURN 2; RETURN 0 0 4");
        code(check, 0, "return a , b", "GLOBAL 1 0 1; GLOBAL 2 0 3; RETURN 2; RETURN 0 0 4");
        code(check, 0, "local a return a", "NIL; DECLARE 0 1; LOCAL 0 0 3; RETURN 1 0 2; RETURN 0 0 4");
        code(check, 0, "return ( a )", "GLOBAL 1 0 2; RETURN 1; RETURN 0 0 4");
        code(check, 1, "local a return function ( ) return a end", "OUTER 0 0 7; RETURN 1 0 6; RETURN 0 0 8");
        code(check, 2, "local a return function ( ) return function ( ) return a , b end end",
            "OUTER 0 0 11; GLOBAL 2 0 13; RETURN 2 0 10; RETURN 0 0 14");
    }

    private static void prefixes(Check check) {
        code(check, 0, "return a . b . c", "GLOBAL 1 0 1; FIELD 2 0 2; FIELD 3 0 4; RETURN 1; RETURN 0 0 6");
        code(check, 0, "return a [ b ] [ c . d ]",
            "GLOBAL 1 0 1; GLOBAL 2 0 3; GET 0 0 2; GLOBAL 3 0 6; FIELD 4 0 7; GET 0 0 5; RETURN 1; "
            + "RETURN 0 0 10");
        code(check, 0, "return ( a . b ) [ 1 ]",
            "GLOBAL 1 0 2; FIELD 2 0 3; NUMBER 1; GET 0 0 6; RETURN 1; RETURN 0 0 9");
        code(check, 0, "return ( f ( ) )", "GLOBAL 6 0 2; CALL 0 2 3; RETURN 1; RETURN 0 0 6");
        code(check, 0, "return ( f ( ) ) . b", "GLOBAL 6 0 2; CALL 0 2 3; FIELD 2 0 6; RETURN 1; RETURN 0 0 8");
    }

    private static void calls(Check check) {
        code(check, 0, "f ( )", "GLOBAL 6; CALL 0 0 1; RETURN 0 0 3");
        code(check, 0, "f ( 1 , 2 )", "GLOBAL 6; NUMBER 1; NUMBER 2; CALL 2 0 1; RETURN 0 0 6");
        code(check, 0, "f ( g ( ) )", "GLOBAL 6; GLOBAL 7 0 2; CALL 0 4 3; CALL 0 1 1; RETURN 0 0 6");
        code(check, 0, "f ( 1 , g ( 2 ) )",
            "GLOBAL 6; NUMBER 1; GLOBAL 7 0 4; NUMBER 2; CALL 1 4 5; CALL 1 1 1; RETURN 0 0 9");
        code(check, 0, "f ( g ( ) , 1 )", "GLOBAL 6; GLOBAL 7 0 2; CALL 0 2 3; NUMBER 1; CALL 2 0 1; RETURN 0 0 8");
        code(check, 0, "f ( ( g ( ) ) )", "GLOBAL 6; GLOBAL 7 0 3; CALL 0 2 4; CALL 1 0 1; RETURN 0 0 8");
        code(check, 0, "f ( ... )", "GLOBAL 6; DOTS; CALL 0 1 1; RETURN 0 0 4");
        code(check, 0, "f ( ... , ( ... ) )", "GLOBAL 6; DOTS 0 1; DOTS 0 1; CALL 2 0 1; RETURN 0 0 8");
        code(check, 0, "f { }", "GLOBAL 6; TABLE 0 0 1; CALL 1 0 1; RETURN 0 0 3");
        code(check, 0, "f \"s\"", "GLOBAL 6; TEXT 119; CALL 1 0 1; RETURN 0 0 2");
        code(check, 0, "a : b ( )", "GLOBAL 1; SELF 2 0 1; CALL 1 0 3; RETURN 0 0 5");
        code(check, 0, "a : b ( 1 , ... )", "GLOBAL 1; SELF 2 0 1; NUMBER 1; DOTS; CALL 2 1 3; RETURN 0 0 8");
        code(check, 0, "a : b { }", "GLOBAL 1; SELF 2 0 1; TABLE 0 0 3; CALL 2 0 3; RETURN 0 0 5");
        code(check, 0, "a . b : c \"s\"", "GLOBAL 1; FIELD 2 0 1; SELF 3 0 3; TEXT 119; CALL 2 0 5; RETURN 0 0 6");
        code(check, 0, "f ( ) ( )", "GLOBAL 6; CALL 0 2 1; CALL 0 0 3; RETURN 0 0 5");
        code(check, 0, "f ( ) : g ( h ( ) )",
            "GLOBAL 6; CALL 0 2 1; SELF 7 0 3; GLOBAL 8 0 6; CALL 0 4 7; CALL 1 1 5; RETURN 0 0 10");
        code(check, 0, "f ( 1 ) . b = 2",
            "GLOBAL 6; NUMBER 1; CALL 1 2 1; TEXT 2; NUMBER 2; PUT 0 0 4; DROP 2; RETURN 0 0 8");
        code(check, 0, "a = f ( g ( 1 ) )",
            "GLOBAL 6 0 2; GLOBAL 7 0 4; NUMBER 1; CALL 1 4 5; CALL 0 5 3; FIT 1; SETGLOBAL 1; RETURN 0 0 9");
    }

    private static void operators(Check check) {
        code(check, 0, "return a and b", "GLOBAL 1 0 1; AND 3; GLOBAL 2 0 3; RETURN 1; RETURN 0 0 4");
        code(check, 0, "return a or b or c",
            "GLOBAL 1 0 1; OR 3; GLOBAL 2 0 3; OR 5; GLOBAL 3 0 5; RETURN 1; RETURN 0 0 6");
        code(check, 0, "return a and b or c and d",
            "GLOBAL 1 0 1; AND 3; GLOBAL 2 0 3; OR 7; GLOBAL 3 0 5; AND 7; GLOBAL 4 0 7; RETURN 1; "
            + "RETURN 0 0 8");
        code(check, 0, "return a or b and c",
            "GLOBAL 1 0 1; OR 5; GLOBAL 2 0 3; AND 5; GLOBAL 3 0 5; RETURN 1; RETURN 0 0 6");
        code(check, 0, "return not a", "GLOBAL 1 0 2; NOT 0 0 1; RETURN 1; RETURN 0 0 3");
        code(check, 0, "return - a , # b , ~ c",
            "GLOBAL 1 0 2; UNARY 41 0 1; GLOBAL 2 0 5; UNARY 46 0 4; GLOBAL 3 0 8; UNARY 48 0 7; RETURN 3; "
            + "RETURN 0 0 9");
        code(check, 0, "return not not a == b",
            "GLOBAL 1 0 3; NOT 0 0 2; NOT 0 0 1; GLOBAL 2 0 5; BINARY 53 0 4; RETURN 1; RETURN 0 0 6");
        code(check, 0, "return a + b * c",
            "GLOBAL 1 0 1; GLOBAL 2 0 3; GLOBAL 3 0 5; BINARY 42 0 4; BINARY 40 0 2; RETURN 1; RETURN 0 0 6");
        code(check, 0, "return ( a + b ) * c",
            "GLOBAL 1 0 2; GLOBAL 2 0 4; BINARY 40 0 3; GLOBAL 3 0 7; BINARY 42 0 6; RETURN 1; RETURN 0 0 8");
        code(check, 0, "return a .. b .. c",
            "GLOBAL 1 0 1; GLOBAL 2 0 3; GLOBAL 3 0 5; BINARY 71 0 4; BINARY 71 0 2; RETURN 1; RETURN 0 0 6");
        code(check, 0, "return a ^ b ^ c",
            "GLOBAL 1 0 1; GLOBAL 2 0 3; GLOBAL 3 0 5; BINARY 45 0 4; BINARY 45 0 2; RETURN 1; RETURN 0 0 6");
        code(check, 0, "return a - b - c",
            "GLOBAL 1 0 1; GLOBAL 2 0 3; BINARY 41 0 2; GLOBAL 3 0 5; BINARY 41 0 4; RETURN 1; RETURN 0 0 6");
        code(check, 0, "return - a ^ - b",
            "GLOBAL 1 0 2; GLOBAL 2 0 5; UNARY 41 0 4; BINARY 45 0 3; UNARY 41 0 1; RETURN 1; RETURN 0 0 6");
        code(check, 0, "return a ^ not b * c",
            "GLOBAL 1 0 1; GLOBAL 2 0 4; NOT 0 0 3; BINARY 45 0 2; GLOBAL 3 0 6; BINARY 42 0 5; RETURN 1; "
            + "RETURN 0 0 7");
        code(check, 0, "return a < b == c > d",
            "GLOBAL 1 0 1; GLOBAL 2 0 3; BINARY 57 0 2; GLOBAL 3 0 5; BINARY 53 0 4; GLOBAL 4 0 7; "
            + "BINARY 58 0 6; RETURN 1; RETURN 0 0 8");
        code(check, 0, "return a | b ~ c & d << e .. f + g * - h ^ i",
            "GLOBAL 1 0 1; GLOBAL 2 0 3; GLOBAL 3 0 5; GLOBAL 4 0 7; GLOBAL 5 0 9; GLOBAL 6 0 11; "
            + "GLOBAL 7 0 13; GLOBAL 8 0 16; GLOBAL 9 0 18; BINARY 45 0 17; UNARY 41 0 15; BINARY 42 0 14; "
            + "BINARY 40 0 12; BINARY 71 0 10; BINARY 50 0 8; BINARY 47 0 6; BINARY 48 0 4; BINARY 49 0 2; "
            + "RETURN 1; RETURN 0 0 19");
        code(check, 0, "return i ^ h * g + f .. e << d & c ~ b | a",
            "GLOBAL 9 0 1; GLOBAL 8 0 3; BINARY 45 0 2; GLOBAL 7 0 5; BINARY 42 0 4; GLOBAL 6 0 7; "
            + "BINARY 40 0 6; GLOBAL 5 0 9; BINARY 71 0 8; GLOBAL 4 0 11; BINARY 50 0 10; GLOBAL 3 0 13; "
            + "BINARY 47 0 12; GLOBAL 2 0 15; BINARY 48 0 14; GLOBAL 1 0 17; BINARY 49 0 16; RETURN 1; "
            + "RETURN 0 0 18");
        code(check, 0, "return a <= b , a >= b , a ~= b , a // b , a / b , a % b , a >> b",
            "GLOBAL 1 0 1; GLOBAL 2 0 3; BINARY 55 0 2; GLOBAL 1 0 5; GLOBAL 2 0 7; BINARY 56 0 6; "
            + "GLOBAL 1 0 9; GLOBAL 2 0 11; BINARY 54 0 10; GLOBAL 1 0 13; GLOBAL 2 0 15; BINARY 52 0 14; "
            + "GLOBAL 1 0 17; GLOBAL 2 0 19; BINARY 43 0 18; GLOBAL 1 0 21; GLOBAL 2 0 23; BINARY 44 0 22; "
            + "GLOBAL 1 0 25; GLOBAL 2 0 27; BINARY 51 0 26; RETURN 7; RETURN 0 0 28");
        code(check, 0, "return a == b and not c",
            "GLOBAL 1 0 1; GLOBAL 2 0 3; BINARY 53 0 2; AND 6; GLOBAL 3 0 6; NOT 0 0 5; RETURN 1; "
            + "RETURN 0 0 7");
        code(check, 0, "return not f ( )", "GLOBAL 6 0 2; CALL 0 2 3; NOT 0 0 1; RETURN 1; RETURN 0 0 5");
        code(check, 0, "return a .. f ( )",
            "GLOBAL 1 0 1; GLOBAL 6 0 3; CALL 0 2 4; BINARY 71 0 2; RETURN 1; RETURN 0 0 6");
        code(check, 0, "return a and f ( )",
            "GLOBAL 1 0 1; AND 4; GLOBAL 6 0 3; CALL 0 2 4; RETURN 1; RETURN 0 0 6");
        code(check, 0, "return f ( ) or a", "GLOBAL 6 0 1; CALL 0 2 2; OR 4; GLOBAL 1 0 5; RETURN 1; RETURN 0 0 6");
    }

    private static void tables(Check check) {
        code(check, 0, "return { }", "TABLE 0 0 1; RETURN 1; RETURN 0 0 3");
        code(check, 0, "return { 1 , 2 }",
            "TABLE 0 0 1; NUMBER 1; APPEND 1 0 2; NUMBER 2; APPEND 2 0 4; RETURN 1; RETURN 0 0 6");
        code(check, 0, "return { a = 1 , [ b ] = 2 , c }",
            "TABLE 0 0 1; NUMBER 1; NAMED 1 0 2; GLOBAL 2 0 7; NUMBER 2; ITEM 0 0 6; GLOBAL 3 0 12; "
            + "APPEND 1 0 12; RETURN 1; RETURN 0 0 14");
        code(check, 0, "return { f ( ) }",
            "TABLE 0 0 1; GLOBAL 6 0 2; CALL 0 4 3; APPENDALL 1 0 2; RETURN 1; RETURN 0 0 6");
        code(check, 0, "return { f ( ) , f ( ) , }",
            "TABLE 0 0 1; GLOBAL 6 0 2; CALL 0 2 3; APPEND 1 0 2; GLOBAL 6 0 6; CALL 0 4 7; "
            + "APPENDALL 2 0 6; RETURN 1; RETURN 0 0 11");
        code(check, 0, "return { f ( ) ; a = 1 }",
            "TABLE 0 0 1; GLOBAL 6 0 2; CALL 0 2 3; APPEND 1 0 2; NUMBER 1; NAMED 1 0 6; RETURN 1; "
            + "RETURN 0 0 10");
        code(check, 0, "return { ... ; }", "TABLE 0 0 1; DOTS; APPENDALL 1 0 2; RETURN 1; RETURN 0 0 5");
        code(check, 0, "return { ( f ( ) ) }",
            "TABLE 0 0 1; GLOBAL 6 0 3; CALL 0 2 4; APPEND 1 0 2; RETURN 1; RETURN 0 0 8");
        code(check, 0, "return { f ( ) + 1 }",
            "TABLE 0 0 1; GLOBAL 6 0 2; CALL 0 2 3; NUMBER 1; BINARY 40 0 5; APPEND 1 0 2; RETURN 1; "
            + "RETURN 0 0 8");
        code(check, 0, "return { a = f ( ) }",
            "TABLE 0 0 1; GLOBAL 6 0 4; CALL 0 2 5; NAMED 1 0 2; RETURN 1; RETURN 0 0 8");
        code(check, 0, "return { [ 1 ] = ... }",
            "TABLE 0 0 1; NUMBER 1; DOTS 0 1; ITEM 0 0 2; RETURN 1; RETURN 0 0 8");
        code(check, 0, "return { 1 , a = 2 , 3 , g { } }",
            "TABLE 0 0 1; NUMBER 1; APPEND 1 0 2; NUMBER 2; NAMED 1 0 4; NUMBER 3; APPEND 2 0 8; "
            + "GLOBAL 7 0 10; TABLE 0 0 11; CALL 1 4 11; APPENDALL 3 0 10; RETURN 1; RETURN 0 0 14");
    }

    private static void lists(Check check) {
        code(check, 0, "local a", "NIL; DECLARE 0 1; RETURN 0 0 2");
        code(check, 0, "local a , b , c", "NIL; NIL; NIL; DECLARE 0 3; RETURN 0 0 6");
        code(check, 0, "local a , b = 1 , 2", "NUMBER 1; NUMBER 2; DECLARE 0 2; RETURN 0 0 8");
        code(check, 0, "local a , b = 1", "NUMBER 1; NIL; DECLARE 0 2; RETURN 0 0 6");
        code(check, 0, "local a = 1 , 2 , 3", "NUMBER 1; NUMBER 2; NUMBER 3; DROP 2; DECLARE 0 1; RETURN 0 0 8");
        code(check, 0, "local a = f ( )", "GLOBAL 6 0 3; CALL 0 4 4; FIT 1; DECLARE 0 1; RETURN 0 0 6");
        code(check, 0, "local a , b , c = 1 , f ( )",
            "NUMBER 1; GLOBAL 6 0 9; CALL 0 4 10; FIT 2; DECLARE 0 3; RETURN 0 0 12");
        code(check, 0, "local a , b , c = f ( )", "GLOBAL 6 0 7; CALL 0 4 8; FIT 3; DECLARE 0 3; RETURN 0 0 10");
        code(check, 0, "local a = 1 , f ( )",
            "NUMBER 1; GLOBAL 6 0 5; CALL 0 2 6; DROP 1; DECLARE 0 1; RETURN 0 0 8");
        code(check, 0, "local a , b = ...", "DOTS; FIT 2; DECLARE 0 2; RETURN 0 0 6");
        code(check, 0, "local a , b , c = f ( ) , 1",
            "GLOBAL 6 0 7; CALL 0 2 8; NUMBER 1; NIL; DECLARE 0 3; RETURN 0 0 12");
        code(check, 0, "local a , b = ( f ( ) )", "GLOBAL 6 0 6; CALL 0 2 7; NIL; DECLARE 0 2; RETURN 0 0 10");
        code(check, 0, "a , b = f ( )",
            "GLOBAL 6 0 4; CALL 0 4 5; FIT 2; SETGLOBAL 2 0 2; SETGLOBAL 1; RETURN 0 0 7");
        code(check, 0, "a = ...", "DOTS; FIT 1; SETGLOBAL 1; RETURN 0 0 3");
        code(check, 0, "a = 1 , ...", "NUMBER 1; DOTS 0 1; DROP 1; SETGLOBAL 1; RETURN 0 0 5");
    }

    private static void locals(Check check) {
        code(check, 0, "local a local b local a = a",
            "NIL; DECLARE 0 1; NIL; DECLARE 1 1 2; LOCAL 0 0 7; DECLARE 2 1 4; RETURN 0 0 8");
        code(check, 0, "local a < const > , b < close > = 1 , 2",
            "NUMBER 1; NUMBER 2; DECLARE 0 2; CLOSING 1 0 6; RETURN 0 0 14");
        code(check, 0, "local a local b < close > , c = a",
            "NIL; DECLARE 0 1; LOCAL 0 0 10; NIL; DECLARE 1 2 2; CLOSING 1 0 3; RETURN 0 0 11");
        code(check, 0, "local function f ( ) return f ( ) end",
            "NIL; DECLARE 0 1; CLOSURE 1 0 1; SETLOCAL 0 0 2; RETURN 0 0 10");
        code(check, 0, "local a local function f ( ) end",
            "NIL; DECLARE 0 1; NIL; DECLARE 1 1 2; CLOSURE 1 0 3; SETLOCAL 1 0 4; RETURN 0 0 8");
        code(check, 0, "local a < close > = 1 local b < close > = 2",
            "NUMBER 1; DECLARE 0 1; CLOSING 0 0 1; NUMBER 2; DECLARE 1 1 7; CLOSING 1 0 8; RETURN 0 0 14");
    }

    private static void targets(Check check) {
        code(check, 0, "a = 1", "NUMBER 1; SETGLOBAL 1; RETURN 0 0 3");
        code(check, 0, "local a a = 1", "NIL; DECLARE 0 1; NUMBER 1; SETLOCAL 0 0 2; RETURN 0 0 5");
        code(check, 1, "local a b = function ( ) a = 1 end", "NUMBER 1; SETOUTER 0 0 7; RETURN 0 0 10");
        code(check, 0, "a , b = b , a", "GLOBAL 2 0 4; GLOBAL 1 0 6; SETGLOBAL 2 0 2; SETGLOBAL 1; RETURN 0 0 7");
        code(check, 0, "a . b = 1", "GLOBAL 1; TEXT 2; NUMBER 1; PUT 0 0 1; DROP 2; RETURN 0 0 5");
        code(check, 0, "a [ b ] = c", "GLOBAL 1; GLOBAL 2 0 2; GLOBAL 3 0 5; PUT 0 0 1; DROP 2; RETURN 0 0 6");
        code(check, 0, "a . b . c = 1", "GLOBAL 1; FIELD 2 0 1; TEXT 3; NUMBER 1; PUT 0 0 3; DROP 2; RETURN 0 0 7");
        code(check, 0, "a [ 1 ] . c [ 2 ] = 3",
            "GLOBAL 1; NUMBER 1; GET 0 0 1; FIELD 3 0 4; NUMBER 2; NUMBER 3; PUT 0 0 6; DROP 2; "
            + "RETURN 0 0 11");
        code(check, 0, "a . b , c , d [ e ] = 1 , 2 , 3",
            "GLOBAL 1; TEXT 2; GLOBAL 4 0 6; GLOBAL 5 0 8; NUMBER 1; NUMBER 2; NUMBER 3; PUT 2 0 7; "
            + "SETGLOBAL 3 0 4; PUT 2 0 1; DROP 4; RETURN 0 0 16");
        code(check, 0, "a , b . c , d . e , f = 1",
            "GLOBAL 2 0 2; TEXT 3; GLOBAL 4 0 6; TEXT 5; NUMBER 1; NIL; NIL; NIL; SETGLOBAL 6 0 10; "
            + "PUT 2 0 7; PUT 3 0 3; SETGLOBAL 1; DROP 4; RETURN 0 0 13");
        code(check, 0, "f ( ) . b , a = g ( )",
            "GLOBAL 6; CALL 0 2 1; TEXT 2; GLOBAL 7 0 8; CALL 0 4 9; FIT 2; SETGLOBAL 1 0 6; PUT 0 0 3; "
            + "DROP 2; RETURN 0 0 11");
        code(check, 0, "( a ) . b = 1", "GLOBAL 1 0 1; TEXT 2; NUMBER 1; PUT 0 0 3; DROP 2; RETURN 0 0 7");
        code(check, 0, "local a a , a . b = a",
            "NIL; DECLARE 0 1; LOCAL 0 0 4; TEXT 2; LOCAL 0 0 8; NIL; PUT 1 0 5; SETLOCAL 0 0 2; DROP 2; "
            + "RETURN 0 0 9");
    }

    private static void functions(Check check) {
        code(check, 0, "function a ( ) end", "CLOSURE 1; SETGLOBAL 1 0 1; RETURN 0 0 5");
        code(check, 0, "local a function a ( ) end",
            "NIL; DECLARE 0 1; CLOSURE 1 0 2; SETLOCAL 0 0 3; RETURN 0 0 7");
        code(check, 1, "local a b = function ( ) function a ( ) end end",
            "CLOSURE 2 0 7; SETOUTER 0 0 8; RETURN 0 0 12");
        code(check, 0, "function a . b ( ) end", "GLOBAL 1 0 1; TEXT 2; CLOSURE 1; PUT 0 0 2; DROP 2; RETURN 0 0 7");
        code(check, 0, "function a . b . c ( ) end",
            "GLOBAL 1 0 1; FIELD 2 0 2; TEXT 3; CLOSURE 1; PUT 0 0 4; DROP 2; RETURN 0 0 9");
        code(check, 0, "function a . b : c ( ) return self end",
            "GLOBAL 1 0 1; FIELD 2 0 2; TEXT 3; CLOSURE 1; PUT 0 0 4; DROP 2; RETURN 0 0 11");
        code(check, 1, "function a . b : c ( d ) return self , d end",
            "LOCAL 0 0 10; LOCAL 1 0 12; RETURN 2 0 9; RETURN 0 0 13");
        code(check, 0, "local a function a : b ( ) end",
            "NIL; DECLARE 0 1; LOCAL 0 0 3; TEXT 2; CLOSURE 1 0 2; PUT 0 0 4; DROP 2; RETURN 0 0 9");
        code(check, 1, "return function ( a , b , ... ) return b , ... end",
            "LOCAL 1 0 10; DOTS; RETURN 1 1 9; RETURN 0 0 13");
        code(check, 1, "local a return function ( ) function a . b ( ) end end",
            "OUTER 0 0 7; TEXT 2; CLOSURE 2 0 6; PUT 0 0 8; DROP 2; RETURN 0 0 13");
    }

    private static void blocks(Check check) {
        code(check, 0, "do end", "RETURN 0 0 2");
        code(check, 0, "do local a end", "NIL; DECLARE 0 1 1; LEAVE; RETURN 0 0 4");
        code(check, 0, "do local a , b do local c end end local d",
            "NIL; NIL; DECLARE 0 2 1; NIL; DECLARE 2 1 6; LEAVE 2; LEAVE; NIL; DECLARE 0 1 10; RETURN 0 0 12");
        code(check, 0, "do local a return end", "NIL; DECLARE 0 1 1; RETURN 0 0 3; LEAVE; RETURN 0 0 5");
        code(check, 0, "local a do return a end", "NIL; DECLARE 0 1; LOCAL 0 0 4; RETURN 1 0 3; RETURN 0 0 6");
        code(check, 0, "do local a goto b local c :: b :: end",
            "NIL; DECLARE 0 1 1; STEP 0 0 3; LEAVE 2; JUMP 7; NIL; DECLARE 1 1 5; LEAVE; RETURN 0 0 11");
        code(check, 0, "if a then local b end", "GLOBAL 1 0 1; JUMPNO 5; NIL; DECLARE 0 1 3; LEAVE; RETURN 0 0 6");
        code(check, 0, "local a if a then local b else local c end",
            "NIL; DECLARE 0 1; LOCAL 0 0 3; JUMPNO 8; NIL; DECLARE 1 1 5; LEAVE 1; JUMP 11; NIL; "
            + "DECLARE 1 1 8; LEAVE 1; RETURN 0 0 11");
    }

    private static void whiles(Check check) {
        code(check, 0, "while a do end", "STEP; GLOBAL 1 0 1; JUMPNO 4; JUMP; RETURN 0 0 4");
        code(check, 0, "while a do local b end",
            "STEP; GLOBAL 1 0 1; JUMPNO 7; NIL; DECLARE 0 1 3; LEAVE; JUMP; RETURN 0 0 6");
        code(check, 0, "local c while a do break end",
            "NIL; DECLARE 0 1; STEP 0 0 2; GLOBAL 1 0 3; JUMPNO 7; JUMP 7; JUMP 2; RETURN 0 0 7");
        code(check, 0, "local c while a do local b break end",
            "NIL; DECLARE 0 1; STEP 0 0 2; GLOBAL 1 0 3; JUMPNO 11; NIL; DECLARE 1 1 5; LEAVE 1; JUMP 11; "
            + "LEAVE 1; JUMP 2; RETURN 0 0 9");
        code(check, 0, "while a do local b do local c break end end",
            "STEP; GLOBAL 1 0 1; JUMPNO 12; NIL; DECLARE 0 1 3; NIL; DECLARE 1 1 6; LEAVE; JUMP 12; "
            + "LEAVE 1; LEAVE; JUMP; RETURN 0 0 11");
        code(check, 0, "while a do while b do break end break end",
            "STEP; GLOBAL 1 0 1; JUMPNO 10; STEP 0 0 3; GLOBAL 2 0 4; JUMPNO 8; JUMP 8; JUMP 3; JUMP 10; "
            + "JUMP; RETURN 0 0 10");
        code(check, 0, "while f ( ) do f ( ) end",
            "STEP; GLOBAL 6 0 1; CALL 0 2 2; JUMPNO 7; GLOBAL 6 0 5; CALL 0 0 6; JUMP; RETURN 0 0 9");
    }

    private static void repeats(Check check) {
        code(check, 0, "repeat until a", "STEP; GLOBAL 1 0 2; JUMPNO; RETURN 0 0 3");
        code(check, 0, "repeat local a until a",
            "STEP; NIL; DECLARE 0 1 1; LOCAL 0 0 4; JUMPYES 7; LEAVE; JUMP; LEAVE; RETURN 0 0 5");
        code(check, 0, "repeat break until a", "STEP; JUMP 4; GLOBAL 1 0 3; JUMPNO; RETURN 0 0 4");
        code(check, 0, "local b repeat local a break until a",
            "NIL; DECLARE 0 1; STEP 0 0 2; NIL; DECLARE 1 1 3; LEAVE 1; JUMP 12; LOCAL 1 0 7; JUMPYES 11; "
            + "LEAVE 1; JUMP 2; LEAVE 1; RETURN 0 0 8");
        code(check, 0, "repeat if a then local b break end until c",
            "STEP; GLOBAL 1 0 2; JUMPNO 8; NIL; DECLARE 0 1 4; LEAVE; JUMP 10; LEAVE; GLOBAL 3 0 9; JUMPNO; "
            + "RETURN 0 0 10");
        code(check, 0, "repeat local a until function ( ) return a end",
            "STEP; NIL; DECLARE 0 1 1; CLOSURE 1 0 4; JUMPYES 7; LEAVE; JUMP; LEAVE; RETURN 0 0 10");
    }

    private static void ifs(Check check) {
        code(check, 0, "if a then end", "GLOBAL 1 0 1; JUMPNO 2; RETURN 0 0 4");
        code(check, 0, "if a then b ( ) end", "GLOBAL 1 0 1; JUMPNO 4; GLOBAL 2 0 3; CALL 0 0 4; RETURN 0 0 7");
        code(check, 0, "if a then else end", "GLOBAL 1 0 1; JUMPNO 3; JUMP 3; RETURN 0 0 5");
        code(check, 0, "if a then b ( ) else c ( ) end",
            "GLOBAL 1 0 1; JUMPNO 5; GLOBAL 2 0 3; CALL 0 0 4; JUMP 7; GLOBAL 3 0 7; CALL 0 0 8; "
            + "RETURN 0 0 11");
        code(check, 0, "if a then b ( ) elseif c then d ( ) end",
            "GLOBAL 1 0 1; JUMPNO 5; GLOBAL 2 0 3; CALL 0 0 4; JUMP 9; GLOBAL 3 0 7; JUMPNO 9; "
            + "GLOBAL 4 0 9; CALL 0 0 10; RETURN 0 0 13");
        code(check, 0, "if a then elseif b then elseif c then else d ( ) end",
            "GLOBAL 1 0 1; JUMPNO 3; JUMP 11; GLOBAL 2 0 4; JUMPNO 6; JUMP 11; GLOBAL 3 0 7; JUMPNO 9; "
            + "JUMP 11; GLOBAL 4 0 10; CALL 0 0 11; RETURN 0 0 14");
        code(check, 0, "if a then local b elseif c then end",
            "GLOBAL 1 0 1; JUMPNO 6; NIL; DECLARE 0 1 3; LEAVE; JUMP 8; GLOBAL 3 0 6; JUMPNO 8; RETURN 0 0 9");
    }

    private static void fors(Check check) {
        code(check, 0, "for i = 1 , 2 do end",
            "NUMBER 1; NUMBER 2; NUMBER -4; FORBEGIN 0 8; STEP; ROUND; LEAVE 3; FORNEXT 0 4; FOREND; "
            + "RETURN 0 0 8");
        code(check, 0, "for i = a , b , c do d ( i ) end",
            "GLOBAL 1 0 3; GLOBAL 2 0 5; GLOBAL 3 0 7; FORBEGIN 0 11; STEP; ROUND; GLOBAL 4 0 9; "
            + "LOCAL 3 0 11; CALL 1 0 10; LEAVE 3; FORNEXT 0 4; FOREND; RETURN 0 0 14");
        code(check, 0, "local a for i = 1 , 2 do local b break end",
            "NIL; DECLARE 0 1; NUMBER 1; NUMBER 2; NUMBER -4; FORBEGIN 1 14 2; STEP 0 0 2; ROUND 1; NIL; "
            + "DECLARE 5 1 9; LEAVE 4; JUMP 14; LEAVE 4; FORNEXT 1 6; FOREND 1; RETURN 0 0 13");
        code(check, 0, "for i = 1 , 2 do break end",
            "NUMBER 1; NUMBER 2; NUMBER -4; FORBEGIN 0 10; STEP; ROUND; LEAVE 3; JUMP 10; LEAVE 3; "
            + "FORNEXT 0 4; FOREND; RETURN 0 0 9");
        code(check, 0, "for i = i , i do end",
            "GLOBAL 9 0 3; GLOBAL 9 0 5; NUMBER -4; FORBEGIN 0 8; STEP; ROUND; LEAVE 3; FORNEXT 0 4; "
            + "FOREND; RETURN 0 0 8");
        code(check, 0, "for i = f ( ) , ... do local j = i end",
            "GLOBAL 6 0 3; CALL 0 2 4; DOTS 0 1; NUMBER -4; FORBEGIN 0 11; STEP; ROUND; LOCAL 3 0 12; "
            + "DECLARE 4 1 9; LEAVE 3; FORNEXT 0 5; FOREND; RETURN 0 0 14");
        code(check, 0, "for i = 1 , 2 do for j = i , 3 do break end end",
            "NUMBER 1; NUMBER 2; NUMBER -4; FORBEGIN 0 19; STEP; ROUND; LOCAL 3 0 10; NUMBER 3; NUMBER -4; "
            + "FORBEGIN 4 16 7; STEP 0 0 7; ROUND 4; LEAVE 7; JUMP 16; LEAVE 7; FORNEXT 4 10; FOREND 4; "
            + "LEAVE 3; FORNEXT 0 4; FOREND; RETURN 0 0 17");
        code(check, 0, "for i in a do end",
            "GLOBAL 1 0 3; NIL; NIL; NIL; EACHBEGIN; STEP; EACH 0 1 2; EACHDONE 0 10; LEAVE 4; JUMP 5; "
            + "LEAVE 4; FOREND; RETURN 0 0 6");
        code(check, 0, "for i , j in f ( ) do g ( j , i ) end",
            "GLOBAL 6 0 5; CALL 0 4 6; FIT 4; EACHBEGIN; STEP; EACH 0 2 4; EACHDONE 0 13; GLOBAL 7 0 9; "
            + "LOCAL 5 0 11; LOCAL 4 0 13; CALL 2 0 10; LEAVE 4; JUMP 4; LEAVE 4; FOREND; RETURN 0 0 16");
        code(check, 0, "for i in a , b , c , d , e do end",
            "GLOBAL 1 0 3; GLOBAL 2 0 5; GLOBAL 3 0 7; GLOBAL 4 0 9; GLOBAL 5 0 11; DROP 1; EACHBEGIN; "
            + "STEP; EACH 0 1 2; EACHDONE 0 12; LEAVE 4; JUMP 7; LEAVE 4; FOREND; RETURN 0 0 14");
        code(check, 0, "for i in a , f ( ) do break end",
            "GLOBAL 1 0 3; GLOBAL 6 0 5; CALL 0 4 6; FIT 3; EACHBEGIN; STEP; EACH 0 1 2; EACHDONE 0 12; "
            + "LEAVE 4; JUMP 13; LEAVE 4; JUMP 5; LEAVE 4; FOREND; RETURN 0 0 11");
        code(check, 0, "local z for i in ... do local b break end",
            "NIL; DECLARE 0 1; DOTS; FIT 4; EACHBEGIN 1 0 2; STEP 0 0 2; EACH 1 1 4; EACHDONE 1 14; NIL; "
            + "DECLARE 6 1 7; LEAVE 5; JUMP 15; LEAVE 5; JUMP 5; LEAVE 5; FOREND 1; RETURN 0 0 11");
        code(check, 0, "for i in i do for j in i do end end",
            "GLOBAL 9 0 3; NIL; NIL; NIL; EACHBEGIN; STEP; EACH 0 1 2; EACHDONE 0 22; LOCAL 4 0 8; NIL; "
            + "NIL; NIL; EACHBEGIN 5 0 5; STEP 0 0 5; EACH 5 1 7; EACHDONE 5 18; LEAVE 9; JUMP 13; LEAVE 9; "
            + "FOREND 5; LEAVE 4; JUMP 5; LEAVE 4; FOREND; RETURN 0 0 12");
        code(check, 0, "for i in a do return f ( ) end",
            "GLOBAL 1 0 3; NIL; NIL; NIL; EACHBEGIN; STEP; EACH 0 1 2; EACHDONE 0 13; GLOBAL 6 0 6; "
            + "CALL 0 4 7; RETURN 0 1 5; LEAVE 4; JUMP 5; LEAVE 4; FOREND; RETURN 0 0 10");
    }

    private static void returns(Check check) {
        code(check, 0, "return", "RETURN; RETURN 0 0 1");
        code(check, 0, "return 1 , 2", "NUMBER 1; NUMBER 2; RETURN 2; RETURN 0 0 4");
        code(check, 0, "return f ( )", "GLOBAL 6 0 1; TAIL 0 0 2; RETURN 0 0 4");
        code(check, 0, "return ( f ( ) )", "GLOBAL 6 0 2; CALL 0 2 3; RETURN 1; RETURN 0 0 6");
        code(check, 0, "return f ( ) , 1", "GLOBAL 6 0 1; CALL 0 2 2; NUMBER 1; RETURN 2; RETURN 0 0 6");
        code(check, 0, "return 1 , f ( )", "NUMBER 1; GLOBAL 6 0 3; CALL 0 4 4; RETURN 1 1; RETURN 0 0 6");
        code(check, 0, "return f ( ... )", "GLOBAL 6 0 1; DOTS; TAIL 0 1 2; RETURN 0 0 5");
        code(check, 0, "return f ( 1 , g ( ) ) ;",
            "GLOBAL 6 0 1; NUMBER 1; GLOBAL 7 0 5; CALL 0 4 6; TAIL 1 1 2; RETURN 0 0 10");
        code(check, 0, "return a : b ( )", "GLOBAL 1 0 1; SELF 2 0 2; TAIL 1 0 4; RETURN 0 0 6");
        code(check, 0, "return ...", "DOTS; RETURN 0 1; RETURN 0 0 2");
        code(check, 0, "local a < close > = 1 return f ( )",
            "NUMBER 1; DECLARE 0 1; CLOSING 0 0 1; GLOBAL 6 0 8; CALL 0 4 9; RETURN 0 1 7; RETURN 0 0 11");
        code(check, 0, "local a < close > = 1 return ...",
            "NUMBER 1; DECLARE 0 1; CLOSING 0 0 1; DOTS; RETURN 0 1 7; RETURN 0 0 9");
        code(check, 0, "do local a < close > = 1 end return f ( )",
            "NUMBER 1; DECLARE 0 1 1; CLOSING 0 0 2; LEAVE; GLOBAL 6 0 10; TAIL 0 0 11; RETURN 0 0 13");
        code(check, 0, "local a < const > = 1 return f ( )",
            "NUMBER 1; DECLARE 0 1; GLOBAL 6 0 8; TAIL 0 0 9; RETURN 0 0 11");
        code(check, 0, "local a < close > = 1 do return f ( ) end",
            "NUMBER 1; DECLARE 0 1; CLOSING 0 0 1; GLOBAL 6 0 9; CALL 0 4 10; RETURN 0 1 8; RETURN 0 0 13");
        code(check, 1, "local a < close > = 1 return function ( ) return f ( ) end",
            "GLOBAL 6 0 12; TAIL 0 0 13; RETURN 0 0 15");
        code(check, 1, "for i in a do b = function ( ) return f ( ) end end",
            "GLOBAL 6 0 11; TAIL 0 0 12; RETURN 0 0 14");
        code(check, 0, "for i = 1 , 2 do return f ( ) end",
            "NUMBER 1; NUMBER 2; NUMBER -4; FORBEGIN 0 10; STEP; ROUND; GLOBAL 6 0 8; TAIL 0 0 9; LEAVE 3; "
            + "FORNEXT 0 4; FOREND; RETURN 0 0 12");
        code(check, 0, "return f ( ) + 1",
            "GLOBAL 6 0 1; CALL 0 2 2; NUMBER 1; BINARY 40 0 4; RETURN 1; RETURN 0 0 6");
        code(check, 0, "return - f ( )", "GLOBAL 6 0 2; CALL 0 2 3; UNARY 41 0 1; RETURN 1; RETURN 0 0 5");
        code(check, 0, "if a then return f ( ) end",
            "GLOBAL 1 0 1; JUMPNO 4; GLOBAL 6 0 4; TAIL 0 0 5; RETURN 0 0 8");
    }

    private static void gotos(Check check) {
        code(check, 0, ":: a :: goto a", "STEP 0 0 3; LEAVE; JUMP; RETURN 0 0 5");
        code(check, 0, "goto a :: a ::", "STEP; LEAVE; JUMP 3; RETURN 0 0 5");
        code(check, 0, "goto a local b :: a ::", "STEP; LEAVE 1; JUMP 5; NIL; DECLARE 0 1 2; RETURN 0 0 7");
        code(check, 0, "local b do local c goto a end :: a :: d ( )",
            "NIL; DECLARE 0 1; NIL; DECLARE 1 1 3; STEP 0 0 5; LEAVE 1; JUMP 8; LEAVE 1; GLOBAL 4 0 11; "
            + "CALL 0 0 12; RETURN 0 0 14");
        code(check, 0, ":: a :: local b goto a", "NIL; DECLARE 0 1 3; STEP 0 0 5; LEAVE; JUMP; RETURN 0 0 7");
        code(check, 0, "do :: a :: end goto b :: b ::", "STEP 0 0 5; LEAVE; JUMP 3; RETURN 0 0 10");
        code(check, 0, "while c do local d goto a local e :: a :: end",
            "STEP; GLOBAL 3 0 1; JUMPNO 12; NIL; DECLARE 0 1 3; STEP 0 0 5; LEAVE 2; JUMP 10; NIL; "
            + "DECLARE 1 1 7; LEAVE; JUMP; RETURN 0 0 13");
        code(check, 0, "repeat local c goto a :: a :: until c",
            "STEP; NIL; DECLARE 0 1 1; STEP 0 0 3; LEAVE 1; JUMP 6; LOCAL 0 0 9; JUMPYES 10; LEAVE; JUMP; "
            + "LEAVE; RETURN 0 0 10");
        code(check, 0, "for i = 1 , 2 do goto a end :: a ::",
            "NUMBER 1; NUMBER 2; NUMBER -4; FORBEGIN 0 11; STEP; ROUND; STEP 0 0 7; LEAVE; JUMP 12; "
            + "LEAVE 3; FORNEXT 0 4; FOREND; RETURN 0 0 13");
        code(check, 0, "local z for i in c do local d goto a :: a :: end",
            "NIL; DECLARE 0 1; GLOBAL 3 0 5; NIL; NIL; NIL; EACHBEGIN 1 0 2; STEP 0 0 2; EACH 1 1 4; "
            + "EACHDONE 1 17; NIL; DECLARE 6 1 7; STEP 0 0 9; LEAVE 7; JUMP 15; LEAVE 5; JUMP 7; LEAVE 5; "
            + "FOREND 1; RETURN 0 0 15");
        code(check, 0, ":: a :: do goto a :: b :: goto b end",
            "STEP 0 0 4; LEAVE; JUMP; STEP 0 0 9; LEAVE; JUMP 3; RETURN 0 0 12");
    }
}
