/** Promise 3: compile answers how many functions there are, or -k; the words are gone then. */
public final class Promise3CompileTest {
    public static void main(String[] args) {
        Check check = new Check();
        accepted(check);
        refused(check);
        names(check);
        attributesAndConstants(check);
        breaks(check);
        labels(check);
        manyLocals(check);
        wordsAreGone(check);
        noFunctionsAfterAFault(check);
        check.end();
    }

    private static void compiles(Check check, int due, String source) {
        ChunkCode chunk = new ChunkCode();
        Check.give(chunk, source);
        check.same(source, due, chunk.compile());
        check.same("functions of " + source, Math.max(due, 0), chunk.functions());
    }

    private static void accepted(Check check) {
        compiles(check, 1, "");
        compiles(check, 1, ";");
        compiles(check, 1, "return");
        compiles(check, 1, "return ;");
        compiles(check, 1, "return 1 , 2 ;");
        compiles(check, 1, "a = 1");
        compiles(check, 1, "a , b . c , d [ 1 ] = 1 , 2 , 3");
        compiles(check, 1, "( a ) . b = 1");
        compiles(check, 1, "f ( ) . x = 1");
        compiles(check, 1, "f ( ) f { } f \"s\" a : b ( ) a : b { } a : b \"s\"");
        compiles(check, 1, "a = b ( c ) . d ( )");
        compiles(check, 1, "do end while a do end repeat until a");
        compiles(check, 1, "if a then elseif b then elseif c then else end");
        compiles(check, 1, "for i = 1 , 2 do end for i = 1 , 2 , 3 do end");
        compiles(check, 1, "for i in a do end for i , j , k in a , b do end");
        compiles(check, 2, "function a ( ) end");
        compiles(check, 3, "function a . b . c ( ) end function a : d ( ... ) end");
        compiles(check, 2, "local function a ( b , c , ... ) end");
        compiles(check, 1, "local a local b , c = 1 local d < const > , e < close > = 1");
        compiles(check, 1, "a = { } b = { 1 } c = { 1 , } d = { a = 1 ; [ 2 ] = 3 ; 4 ; }");
        compiles(check, 1, "a = - - - b ^ - c ^ not d");
        compiles(check, 1, "goto a :: a ::");
        compiles(check, 4, "return function ( ) return function ( ) end end , function ( ) end");
    }

    private static void refused(Check check) {
        compiles(check, -7, "a");
        compiles(check, -7, "a = ");
        compiles(check, -7, "( a )");
        compiles(check, -7, "( a ) = 1");
        compiles(check, -7, "f ( ) = 1");
        compiles(check, -7, "a , f ( ) = 1");
        compiles(check, -7, "a . b");
        compiles(check, -7, "return 1 a = 2");
        compiles(check, -7, "return ; ;");
        compiles(check, -7, "end");
        compiles(check, -7, "a = { , }");
        compiles(check, -7, "a = { 1 , , }");
        compiles(check, -7, "a = b ( c ) = d");
        compiles(check, -7, "for a = 1 do end");
        compiles(check, -7, "for a , b = 1 , 2 do end");
        compiles(check, -7, "for a . b in c do end");
        compiles(check, -7, "function a : b . c ( ) end");
        compiles(check, -7, "local function a . b ( ) end");
        compiles(check, -7, "local a . b = 1");
        compiles(check, -7, "function a ( ... , b ) end");
        compiles(check, -7, "if a then else elseif b then end");
        compiles(check, -7, "a = \"s\" ( )");
        compiles(check, -7, "a = { } . b");
        compiles(check, -7, "a = 1 2");
        compiles(check, -7, "a = not");
        compiles(check, -7, "break break = 1");
        compiles(check, 1, "a = " + Check.times(48, "(") + "b " + Check.times(48, ")"));
        compiles(check, -8, "a = " + Check.times(49, "(") + "b " + Check.times(49, ")"));
        compiles(check, 1, Check.times(48, "if a then else") + Check.times(48, "end"));
        compiles(check, -8, Check.times(49, "if a then else") + Check.times(49, "end"));
        compiles(check, -7, Check.times(48, "do") + Check.times(47, "end"));
        compiles(check, -7, "goto a x");
        compiles(check, -7, "break )");
    }

    private static void names(Check check) {
        compiles(check, 1, "return ...");
        compiles(check, 2, "return function ( ... ) return ... end");
        compiles(check, -15, "return function ( ) return ... end");
        compiles(check, -15, "return function ( ... ) return function ( a ) a = ... end end");
    }

    private static void attributesAndConstants(Check check) {
        compiles(check, -9, "local a < b > = 1");
        compiles(check, -9, "local a < close > , b < close > = 1");
        compiles(check, -9, "local a < self > = 1");
        compiles(check, 1, "local a < close > = 1 local b < close > = 1");
        compiles(check, 1, "local a < const > , b < const > = 1");
        compiles(check, -10, "local a < const > = 1 a = 2");
        compiles(check, -10, "local a < close > = 1 a = 2");
        compiles(check, -10, "local a < const > = 1 b , a = 2");
        compiles(check, -10, "local a < const > = 1 function a ( ) end");
        compiles(check, -10, "local a < const > = 1 b = function ( ) a = 2 end");
        compiles(check, 1, "local a < const > = 1 a . b = 2 a [ 1 ] = 2");
        compiles(check, 2, "local a < const > = 1 function a . b ( ) end");
        compiles(check, 1, "local a < const > = 1 local a a = 2");
        compiles(check, 1, "do local a < const > = 1 end a = 2");
        compiles(check, 2, "local a < const > = function ( ) a = 1 end");
    }

    private static void breaks(Check check) {
        compiles(check, -11, "break");
        compiles(check, -11, "do break end");
        compiles(check, -11, "while a do end break");
        compiles(check, -11, "while a do b = function ( ) break end end");
        compiles(check, -11, "repeat until function ( ) break end");
        compiles(check, 1, "while a do do break end break end");
        compiles(check, 1, "repeat break until a");
        compiles(check, 1, "for a = 1 , 2 do if b then break end end for a in b do break end");
    }

    private static void labels(Check check) {
        compiles(check, -12, "goto a");
        compiles(check, -12, "goto a do :: a :: end");
        compiles(check, -12, ":: a :: b = function ( ) goto a end");
        compiles(check, 1, ":: a :: do goto a end");
        compiles(check, -13, ":: a :: :: a ::");
        compiles(check, -13, ":: a :: do :: a :: end");
        compiles(check, 1, "do :: a :: end :: a ::");
        compiles(check, 2, ":: a :: b = function ( ) :: a :: end");
        compiles(check, -14, "goto a local b :: a :: c ( )");
        compiles(check, -14, "do goto a end local function b ( ) end :: a :: return");
        compiles(check, 1, "goto a local b :: a ::");
        compiles(check, 1, "goto a local b :: a :: ; :: c :: ;");
        compiles(check, 1, "do goto a local b :: a :: end");
        compiles(check, 1, "if b then goto a local b :: a :: elseif b then goto a local b :: a :: else end");
        compiles(check, -14, "repeat goto a local b :: a :: until c");
        compiles(check, 1, "repeat do goto a local b :: a :: end until c");
        compiles(check, 1, "goto a do local b end :: a :: c ( )");
        compiles(check, 1, ":: a :: local b goto a");
        compiles(check, 1, "local b goto a c = d :: a :: c ( )");
        compiles(check, 1, "for i = 1 , 2 do goto a local b :: a :: end");
        compiles(check, 1, "for i in c do goto a end :: a :: c ( )");
    }

    private static void manyLocals(Check check) {
        String locals = Check.times(199, "local a");
        compiles(check, 1, locals + "local a");
        compiles(check, -16, locals + "local a , b");
        compiles(check, -16, locals + "local a local function b ( ) end");
        compiles(check, 1, locals + "do local a end do local a end");
        compiles(check, 2, locals + "local a = function ( ) local b end");
        compiles(check, 1, Check.times(196, "local a") + "for i = 1 , 2 do end");
        compiles(check, -16, Check.times(197, "local a") + "for i = 1 , 2 do end");
        compiles(check, -16, Check.times(198, "local a") + "for i = 1 , 2 do end");
        compiles(check, 1, Check.times(195, "local a") + "for i in b do end");
        compiles(check, -16, Check.times(195, "local a") + "for i , j in b do end");
        compiles(check, -16, Check.times(197, "local a") + "for i in b do end");
        compiles(check, 2, "return function ( " + Check.times(199, "a ,") + "a , ... ) end");
        compiles(check, -16, "return function ( " + Check.times(200, "a ,") + "a ) end");
        compiles(check, 2, "function a : b ( " + Check.times(198, "a ,") + "a ) end");
        compiles(check, -16, "function a : b ( " + Check.times(199, "a ,") + "a ) end");
    }

    private static void wordsAreGone(Check check) {
        ChunkCode chunk = new ChunkCode();
        Check.give(chunk, "function a ( ) end");
        check.same("first", 2, chunk.compile());
        check.same("no words left", 1, chunk.compile());
        check.same("its code", "RETURN", Check.listing(chunk, 0));
        Check.give(chunk, "local a :: b :: while");
        check.same("refused", -7, chunk.compile());
        check.same("none left after a refusal", 1, chunk.compile());
        Check.give(chunk, "a = 1 :: b ::");
        check.same("nothing is left of the refused ones", 1, chunk.compile());
        check.same("a is no local", "NUMBER 1; SETGLOBAL 1; RETURN 0 0 6", Check.listing(chunk, 0));
    }

    private static void noFunctionsAfterAFault(Check check) {
        for (String source : new String[] {"function a ( ) end break", "function a ( ) end end"}) {
            ChunkCode chunk = Check.compiled(source);
            check.same("functions", 0, chunk.functions());
            check.same("function", ChunkCode.BAD, chunk.function(0, 0));
            check.same("outer", ChunkCode.BAD, chunk.outer(0, 0, 0));
            check.same("code", ChunkCode.BAD, chunk.code(0, 0, 0));
            check.same("depth", ChunkCode.BAD, chunk.depth(0));
            check.same("flaws", 0, chunk.flaws());
        }
    }
}
