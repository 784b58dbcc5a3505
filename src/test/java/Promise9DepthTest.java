/** Promise 9: depth is the greatest number of values on the stack of a function. */
public final class Promise9DepthTest {
    public static void main(String[] args) {
        Check check = new Check();
        values(check);
        calls(check);
        statements(check);
        loops(check);
        ofEachFunction(check);
        noneSuch(check);
        check.end();
    }

    private static void depth(Check check, int due, String source) {
        check.same("depth of " + source, due, Check.compiled(source).depth(0));
    }

    private static void values(Check check) {
        depth(check, 0, "");
        depth(check, 0, "return");
        depth(check, 1, "return 1");
        depth(check, 6, "return nil , false , true , 1 , \"s\" , ...");
        depth(check, 2, "return a + b + c");
        depth(check, 3, "return a .. b .. c");
        depth(check, 3, "return a + b * c");
        depth(check, 1, "return a and b and c");
        depth(check, 1, "return a or b or c");
        depth(check, 1, "return not - # ~ a");
        depth(check, 1, "return a . b . c");
        depth(check, 2, "return a [ b ] [ c ]");
        depth(check, 2, "return { 1 , 2 , 3 }");
        depth(check, 2, "return { a = 1 , b = 2 }");
        depth(check, 3, "return { [ 1 ] = 2 , [ 3 ] = 4 }");
        depth(check, 2, "return { f ( ) }");
        depth(check, 4, "return { { { { } } } }");
        depth(check, 1, "return function ( ) end");
    }

    private static void calls(Check check) {
        depth(check, 1, "f ( )");
        depth(check, 3, "f ( 1 , 2 )");
        depth(check, 2, "f ( g ( ) )");
        depth(check, 2, "f ( ... )");
        depth(check, 2, "a : b ( )");
        depth(check, 3, "a : b { }");
        depth(check, 4, "a : b ( 1 , ... )");
        depth(check, 1, "f ( ) f ( )");
        depth(check, 1, "f ( ) ( ) ( )");
        depth(check, 1, "return f ( )");
        depth(check, 3, "return f ( 1 , ... )");
        depth(check, 2, "return 1 , f ( )");
    }

    private static void statements(Check check) {
        depth(check, 1, "local a");
        depth(check, 3, "local a , b , c");
        depth(check, 3, "local a = 1 , 2 , 3");
        depth(check, 5, "local a , b , c , d , e = f ( )");
        depth(check, 2, "local a < const > , b < close > = 1 , 2");
        depth(check, 1, "a = 1 b = 2");
        depth(check, 3, "a . b = 1");
        depth(check, 6, "a . b , c [ d ] = 1 , 2");
        depth(check, 2, "a , b = f ( )");
        depth(check, 1, "function a ( ) end");
        depth(check, 3, "function a . b ( ) end");
        depth(check, 1, "local function a ( ) end");
        depth(check, 0, ":: a :: goto a");
    }

    private static void loops(Check check) {
        depth(check, 1, "if a then elseif b then end");
        depth(check, 1, "while a do end");
        depth(check, 1, "repeat local a until a");
        depth(check, 3, "for i = 1 , 2 do end");
        depth(check, 4, "for i = 1 , 2 do f ( 1 , 2 , 3 ) end");
        depth(check, 4, "for i in a do end");
        depth(check, 4, "for i in f ( ) do end");
        depth(check, 5, "for i in 1 , 2 , 3 , 4 , 5 do end");
        depth(check, 1, "while a do break end");
    }

    private static void ofEachFunction(Check check) {
        ChunkCode chunk = Check.compiled("a = function ( ) return 1 , 2 , 3 end b = function ( ) end");
        check.same("depth of 0", 1, chunk.depth(0));
        check.same("depth of 1", 3, chunk.depth(1));
        check.same("depth of 2", 0, chunk.depth(2));
    }

    private static void noneSuch(Check check) {
        ChunkCode chunk = Check.compiled("a = function ( ) end");
        for (int f : new int[] {-1, 2, Integer.MIN_VALUE, Integer.MAX_VALUE}) {
            check.same("depth of " + f, ChunkCode.BAD, chunk.depth(f));
        }
        check.same("of a new object", 0, new ChunkCode().depth(0));
        check.same("of no function", ChunkCode.BAD, new ChunkCode().depth(1));
        check.same("after a fault", ChunkCode.BAD, Check.compiled("break").depth(0));
    }
}
