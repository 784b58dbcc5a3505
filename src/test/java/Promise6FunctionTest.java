/** Promise 6: function tells what there is to tell of a function; BAD when there is none such. */
public final class Promise6FunctionTest {
    public static void main(String[] args) {
        Check check = new Check();
        chunks(check);
        bodies(check);
        order(check);
        mostLocals(check);
        noneSuch(check);
        check.end();
    }

    /** Around, names, dots, words, most locals, outer locals, instructions, word function. */
    private static void function(Check check, int f, String due, String source) {
        ChunkCode chunk = Check.compiled(source);
        StringBuilder got = new StringBuilder();
        for (int what = 0; what <= 7; what++) {
            got.append(what == 0 ? "" : " ").append(chunk.function(f, what));
        }
        check.same("function " + f + " of " + source, due, got.toString());
    }

    private static void chunks(Check check) {
        function(check, 0, "-1 0 1 0 0 0 1 -1", "");
        function(check, 0, "-1 0 1 3 0 0 3 -1", "a = 1");
        function(check, 0, "-1 0 1 6 2 0 4 -1", "local a , b = 1");
    }

    private static void bodies(Check check) {
        function(check, 1, "0 0 0 3 0 0 1 2", "a = function ( ) end");
        function(check, 1, "0 0 0 3 0 0 1 0", "function a ( ) end");
        function(check, 1, "0 0 0 3 0 0 1 1", "local function a ( ) end");
        function(check, 1, "0 0 1 4 0 0 1 0", "function a . b ( ... ) end");
        function(check, 1, "0 1 0 3 1 0 1 0", "function a . b : c ( ) end");
        function(check, 1, "0 3 1 8 3 0 1 0", "function a : b ( c , d , ... ) end");
        function(check, 1, "0 2 0 6 2 0 1 2", "a = function ( b , b ) end");
        function(check, 1, "0 1 0 12 3 1 4 3", "local a ; function b ( c ) local d , e = a , c end");
    }

    private static void order(Check check) {
        String source = "a = { function ( ) b = function ( ) end end , function ( ) end }";
        function(check, 0, "-1 0 1 19 0 0 7 -1", source);
        function(check, 1, "0 0 0 9 0 0 3 3", source);
        function(check, 2, "1 0 0 3 0 0 1 8", source);
        function(check, 3, "0 0 0 3 0 0 1 14", source);
    }

    private static void mostLocals(Check check) {
        mostLocals(check, 0, 0, "a = 1");
        mostLocals(check, 0, 1, "local a");
        mostLocals(check, 0, 1, "do local a end do local b end");
        mostLocals(check, 0, 2, "do local a , b end local c");
        mostLocals(check, 0, 3, "local a do local b do local c end end local d");
        mostLocals(check, 0, 4, "for i = 1 , 2 do end");
        mostLocals(check, 0, 5, "for i in a do end");
        mostLocals(check, 0, 7, "for i , j , k in a do end");
        mostLocals(check, 0, 6, "local a for i = 1 , 2 do local b end");
        mostLocals(check, 0, 8, "for i = 1 , 2 do for j = 1 , 2 do end end");
        mostLocals(check, 0, 1, "local a = function ( b , c ) local d end");
        mostLocals(check, 1, 3, "local a = function ( b , c ) local d end");
        mostLocals(check, 1, 2, "function a : b ( c ) end");
        mostLocals(check, 0, 1, "local function a ( ) end");
        mostLocals(check, 0, 2, "repeat local a local b until c");
        mostLocals(check, 0, 200, Check.times(200, "local a"));
    }

    private static void mostLocals(Check check, int f, int due, String source) {
        check.same("most locals, function " + f + " of " + source, due, Check.compiled(source).function(f, 4));
    }

    private static void noneSuch(Check check) {
        ChunkCode chunk = Check.compiled("function a ( ) end");
        for (int f : new int[] {-1, 2, 3, Integer.MIN_VALUE, Integer.MAX_VALUE}) {
            for (int what = 0; what <= 7; what++) {
                check.same("function " + f + " " + what, ChunkCode.BAD, chunk.function(f, what));
            }
        }
        for (int what : new int[] {-1, 8, 9, Integer.MIN_VALUE, Integer.MAX_VALUE}) {
            check.same("function 0 " + what, ChunkCode.BAD, chunk.function(0, what));
            check.same("function 1 " + what, ChunkCode.BAD, chunk.function(1, what));
        }
        Check.give(chunk, "break");
        chunk.compile();
        check.same("after a fault", ChunkCode.BAD, chunk.function(0, 0));
    }
}
