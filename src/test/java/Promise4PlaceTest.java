/** Promise 4: place is the number of the fault's word, or of all words; 0 before any compile. */
public final class Promise4PlaceTest {
    public static void main(String[] args) {
        Check check = new Check();
        withoutAFault(check);
        grammar(check);
        levels(check);
        names(check);
        labels(check);
        manyLocals(check);
        whichComesFirst(check);
        staysUntilTheNextCompile(check);
        check.end();
    }

    private static void fault(Check check, int kind, int place, String source) {
        ChunkCode chunk = new ChunkCode();
        Check.give(chunk, source);
        check.same(source, "fault " + kind + " at " + place, "fault " + -chunk.compile() + " at " + chunk.place());
    }

    private static void withoutAFault(Check check) {
        check.same("before", 0, new ChunkCode().place());
        check.same("no words", 0, Check.compiled("").place());
        check.same("one word", 1, Check.compiled("return").place());
        check.same("more words", 8, Check.compiled("function a ( ) a ( ) end").place());
    }

    private static void grammar(Check check) {
        fault(check, 7, 0, "end");
        fault(check, 7, 1, "a");
        fault(check, 7, 1, "a b = 1");
        fault(check, 7, 2, "a =");
        fault(check, 7, 3, "a = 1 = 2");
        fault(check, 7, 3, "( a )");
        fault(check, 7, 3, "( a ) = 1");
        fault(check, 7, 3, "f ( ) = 1");
        fault(check, 7, 5, "a , f ( ) = 1");
        fault(check, 7, 3, "a . b");
        fault(check, 7, 2, "a . 1");
        fault(check, 7, 2, "a : 1");
        fault(check, 7, 3, "a : b = 1");
        fault(check, 7, 2, "return 1 a = 2");
        fault(check, 7, 2, "return ; ;");
        fault(check, 7, 1, "for 1");
        fault(check, 7, 2, "for a");
        fault(check, 7, 4, "for a = 1 do end");
        fault(check, 7, 4, "for a , b = 1 , 2 do end");
        fault(check, 7, 2, "for a . b in c do end");
        fault(check, 7, 4, "function a : b . c ( ) end");
        fault(check, 7, 3, "local function a . b ( ) end");
        fault(check, 7, 1, "local 1");
        fault(check, 7, 3, "local a < 1 > = 1");
        fault(check, 7, 4, "function a ( ... , b ) end");
        fault(check, 7, 5, "function a ( b , ) end");
        fault(check, 7, 4, "if a then else elseif b then end");
        fault(check, 7, 4, "a = \"s\" ( )");
        fault(check, 7, 4, "a = { } . b");
        fault(check, 7, 3, "a = { , }");
        fault(check, 7, 5, "a = { 1 , , }");
        fault(check, 7, 6, "a = b ( c ) = d");
        fault(check, 7, 2, "goto a end");
        fault(check, 7, 1, "goto break");
        fault(check, 7, 2, ":: a");
        fault(check, 7, 3, "while a do");
        fault(check, 7, 1, "while");
        fault(check, 7, 2, "repeat until");
    }

    private static void levels(Check check) {
        fault(check, 8, 2 + 48, "a = " + Check.times(49, "(") + "b " + Check.times(49, ")"));
        fault(check, 8, 2 + 48, "a = " + Check.times(49, "{"));
        fault(check, 8, 48, Check.times(49, "do"));
        fault(check, 8, 48, Check.times(49, "repeat"));
        fault(check, 8, 48 * 3 + 2, Check.times(49, "if a then"));
        fault(check, 8, 48 * 4 + 2, Check.times(49, "if a then else"));
        fault(check, 8, 48 * 6 + 2, Check.times(49, "if a then elseif b then"));
        fault(check, 8, 47 + 2, Check.times(47, "do") + "function a ( ) end");
        fault(check, 8, 48 + 1, Check.times(48, "do") + "a ( )");
        fault(check, 8, 48 + 1, Check.times(48, "do") + "a { }");
        fault(check, 8, 48 + 1, Check.times(48, "do") + "a [ 1 ] = 1");
        fault(check, 8, 48, Check.times(48, "do") + "( a ) ( )");
        // A word that the grammar does not have there is fault 7, whatever it would open.
        fault(check, 7, 48, Check.times(48, "do") + "then");
        fault(check, 7, 50, Check.times(48, "do") + "a = do");
        fault(check, 7, 3, "do a = do " + Check.times(49, "do"));
        fault(check, 7, 48 + 48, Check.times(48, "do") + Check.times(49, "end"));
    }

    private static void names(Check check) {
        fault(check, 9, 3, "local a < b > = 1");
        fault(check, 9, 8, "local a < close > , b < close > = 1");
        fault(check, 9, 8, "local a < close > , b < c > = 1");
        fault(check, 10, 7, "local a < const > = 1 a = 2");
        fault(check, 10, 9, "local a < const > = 1 b , a = 2");
        fault(check, 10, 8, "local a < const > = 1 function a ( ) end");
        fault(check, 11, 0, "break");
        fault(check, 11, 8, "while a do b = function ( ) break end end");
        fault(check, 15, 5, "return function ( ) return ... end");
        fault(check, 15, 9, "return function ( a ) b ( a , ... ) end");
    }

    private static void labels(Check check) {
        fault(check, 12, 0, "goto a");
        fault(check, 12, 2, "; ; goto a");
        fault(check, 13, 4, ":: a :: :: a ::");
        fault(check, 13, 5, ":: a :: do :: a :: end");
        fault(check, 14, 0, "goto a local b :: a :: c ( )");
        fault(check, 14, 1, "do goto a end local b :: a :: return");
        fault(check, 14, 1, "repeat goto a local b :: a :: until c");
        fault(check, 12, 2, "goto a goto b local c :: a ::");
    }

    private static void manyLocals(Check check) {
        String all = Check.times(200, "local a");
        fault(check, 16, 401, all + "local b");
        fault(check, 16, 402, all + "local function b ( ) end");
        fault(check, 16, 400, all + "for i = 1 , 2 do end");
        fault(check, 16, 400, all + "for i in a do end");
        fault(check, 16, 394, Check.times(197, "local a") + "for i in a do end");
        fault(check, 16, 395, Check.times(197, "local a") + "for i = 1 , 2 do end");
        fault(check, 16, 396, Check.times(198, "local a") + "for i = 1 , 2 do end");
        fault(check, 16, 393, Check.times(196, "local a") + "for i in a do end");
        fault(check, 16, 393, Check.times(195, "local a") + "for i , j in a do end");
        fault(check, 16, 3 + 400, "function a ( " + Check.times(200, "a ,") + "b ) end");
        fault(check, 16, 5 + 398, "function a : b ( " + Check.times(199, "a ,") + "b ) end");
    }

    private static void whichComesFirst(Check check) {
        fault(check, 7, 10, "break goto a local b < c > = 1 )");
        fault(check, 7, 2, "break break )");
        fault(check, 11, 0, "break goto a");
        fault(check, 12, 0, "goto a break");
        fault(check, 9, 3, "local a < b > = 1 goto c break");
        fault(check, 12, 1, "; goto c local a < b > = 1");
        fault(check, 8, 1 + 48, "break " + Check.times(49, "do"));
        fault(check, 7, 1, "break ) " + Check.times(49, "do"));
    }

    private static void staysUntilTheNextCompile(Check check) {
        ChunkCode chunk = Check.compiled("a = )");
        check.same("the fault's", 2, chunk.place());
        Check.give(chunk, "; ; ; ;");
        check.same("still the fault's", 2, chunk.place());
        chunk.compile();
        check.same("how many words", 4, chunk.place());
        chunk.compile();
        check.same("no words", 0, chunk.place());
    }
}
