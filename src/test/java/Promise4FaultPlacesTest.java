/** Promise 4: each of the faults 9 to 15 at the word that its sentence names, and what is no such fault. */
public final class Promise4FaultPlacesTest {
    private static final Check CHECK = new Check();

    public static void main(String[] args) {
        attributes();
        attributesByNumber();
        constants();
        noConstants();
        breaks();
        gotosWithoutALabel();
        labelsTwice();
        gotosOverALocal();
        gotosOverNoLocal();
        dots();
        CHECK.end();
    }

    // 9: "an attribute that is neither const nor close, or a second close in one statement: at that name"
    private static void attributes() {
        CHECK.noFault("local a < const > = 1");
        CHECK.noFault("local a < close > = 1");
        CHECK.fault(9, 3, "local a < b > = 1");
        CHECK.fault(9, 3, "local a < self > = 1");
        CHECK.fault(9, 3, "local a < a >");
        CHECK.fault(9, 8, "local a < const > , b < c > = 1");
        CHECK.fault(9, 5, "local a , b < c > = 1");
        CHECK.fault(9, 8, "local a < close > , b < close > = 1");
        CHECK.fault(9, 8, "local a < close > , b < close > , c < close > = 1");
        CHECK.fault(9, 13, "local a < close > , b < const > , c < close > = 1");
        CHECK.fault(9, 10, "local a < close > , b , c < close > = 1");
        CHECK.fault(9, 8, "local a < close > , b < c > = 1");
        CHECK.fault(9, 3, "local a < b > , c < close > , d < close >");
        CHECK.noFault("local a < const > , b < const > , c < close > = 1");
        CHECK.noFault("local a < close > , b < const > = 1");
        CHECK.noFault("local a < close > local b < close >");
        CHECK.noFault("local a < close > = function ( ) local b < close > end");
        CHECK.fault(7, 3, "local a < 1 > = 1");
        CHECK.fault(7, 3, "local a < nil > = 1");
        CHECK.fault(7, 4, "local a < const = 1");
        CHECK.fault(7, 3, "local a < > = 1");
    }

    // "Text -1 is self's, -2 const's, -3 close's."
    private static void attributesByNumber() {
        for (int text : new int[] {Integer.MIN_VALUE, -5, -4, -3, -2, -1, 0, 1, 2, 3, Integer.MAX_VALUE}) {
            ChunkCode chunk = new ChunkCode();
            Check.give(chunk, "local a <");
            chunk.word(1, text);
            Check.give(chunk, ">");
            CHECK.same("attribute " + text, text == -2 || text == -3 ? 1 : -9, chunk.compile());
            CHECK.same("its place", text == -2 || text == -3 ? 5 : 3, chunk.place());
            CHECK.same("a close one is closed", text == -3 ? 28 : text == -2 ? 45 : ChunkCode.BAD, chunk.code(0, 2, 0));
        }
    }

    // 10: "a target that is a name which means a constant, also such a name alone behind function: at it"
    private static void constants() {
        CHECK.fault(10, 7, "local a < const > = 1 a = 2");
        CHECK.fault(10, 7, "local a < close > = 1 a = 2");
        CHECK.fault(10, 5, "local a < const > a = 2");
        CHECK.fault(10, 5, "local a < const > a , b = 2");
        CHECK.fault(10, 7, "local a < const > b , a = 2");
        CHECK.fault(10, 5, "local a < const > a , a = 2");
        CHECK.fault(10, 11, "local a < const > b . c , d , a = 2");
        CHECK.fault(10, 7, "local a , b < const > b = 1");
        CHECK.fault(10, 6, "local a < const > function a ( ) end");
        CHECK.fault(10, 6, "local a < close > function a ( ) end");
        CHECK.fault(10, 6, "local a < const > do a = 1 end");
        CHECK.fault(10, 9, "local a < const > function b ( ) a = 1 end");
        CHECK.fault(10, 10, "local a < const > function b ( ) function a ( ) end end");
        CHECK.fault(10, 13, "local a < const > function b ( ) function c ( ) a = 1 end end");
        CHECK.fault(10, 7, "local a local a < const > a = 1");
        CHECK.fault(10, 9, "local a < const > do local a end a = 1");
        CHECK.fault(10, 6, "repeat local a < const > a = 1 until b");
    }

    private static void noConstants() {
        CHECK.noFault("local a < const > = 1 a . b = 2");
        CHECK.noFault("local a < const > = 1 a [ 1 ] = 2");
        CHECK.noFault("local a < const > = 1 b [ a ] = a");
        CHECK.noFault("local a < const > = 1 a ( )");
        CHECK.noFault("local a < const > = 1 function a . b ( ) end function a : b ( ) end");
        CHECK.noFault("local a < const > = 1 local function a ( ) a = 1 end a = 1");
        CHECK.noFault("local a < const > = 1 local a = 2 a = 3");
        CHECK.noFault("local a < const > = 1 for a = 1 , 2 do a = 3 end for a in b do a = 3 end");
        CHECK.noFault("local a < const > = 1 function b ( a ) a = 1 end");
        CHECK.noFault("do local a < const > = 1 end a = 2");
        CHECK.noFault("local a < const > , b = 1 b = 2");
        CHECK.noFault("a = 1 local a < const > = 2");
        CHECK.noFault("local a < const > = function ( ) a = 1 end");
        CHECK.noFault("local self < const > = 1 function a : b ( ) self = 1 end");
        CHECK.fault(7, 10, "local a < const > = 1 ( a ) = 2");
    }

    // 11: "break that is in no loop of its function"
    private static void breaks() {
        CHECK.fault(11, 0, "break");
        CHECK.fault(11, 1, "; break");
        CHECK.fault(11, 1, "do break end");
        CHECK.fault(11, 3, "if a then break end");
        CHECK.fault(11, 4, "while a do end break");
        CHECK.fault(11, 3, "repeat until a break");
        CHECK.fault(11, 8, "for i = 1 , 2 do end break");
        CHECK.fault(11, 6, "for i in a do end break");
        CHECK.fault(11, 7, "while a do function b ( ) break end end");
        CHECK.fault(11, 5, "repeat function b ( ) break end until a");
        CHECK.fault(11, 5, "repeat until function ( ) break end");
        CHECK.fault(11, 4, "while function ( ) break end do end");
        CHECK.fault(11, 11, "for i = 1 , 2 do function b ( ) break end end");
        CHECK.fault(11, 9, "for i in a do function b ( ) break end end");
        CHECK.fault(11, 8, "function b ( ) while a do end break end");
        CHECK.noFault("while a do break end");
        CHECK.noFault("repeat break until a");
        CHECK.noFault("for i = 1 , 2 do break end");
        CHECK.noFault("for i in a do break end");
        CHECK.noFault("while a do do if b then break else break end end break break end");
        CHECK.noFault("while a do while b do end break end");
        CHECK.noFault("function b ( ) while a do break end end");
        CHECK.noFault("while a do function b ( ) repeat break until a end break end");
    }

    // 12: "goto a name for which no label can be seen: at goto"
    private static void gotosWithoutALabel() {
        CHECK.fault(12, 0, "goto a");
        CHECK.fault(12, 2, "; ; goto a");
        CHECK.fault(12, 0, "goto a :: b ::");
        CHECK.fault(12, 0, "goto a do :: a :: end");
        CHECK.fault(12, 5, "do :: a :: end goto a");
        CHECK.fault(12, 1, "do goto a end do :: a :: end");
        CHECK.fault(12, 3, "if b then goto a else :: a :: end");
        CHECK.fault(12, 7, "if b then :: a :: else goto a end");
        CHECK.fault(12, 6, "repeat :: a :: until b goto a");
        CHECK.fault(12, 7, ":: a :: function b ( ) goto a end");
        CHECK.fault(12, 0, "goto a function b ( ) :: a :: end");
        CHECK.fault(12, 4, "function b ( ) goto a end :: a ::");
        CHECK.fault(12, 10, ":: a :: while b do function c ( ) goto a end end");
        CHECK.noFault("goto a :: a ::");
        CHECK.noFault(":: a :: goto a");
        CHECK.noFault("do do goto a end end :: a ::");
        CHECK.noFault(":: a :: while b do if b then goto a end end");
        CHECK.noFault("function b ( ) goto a :: a :: end");
        CHECK.noFault("repeat goto a :: a :: until b");
        CHECK.noFault("for i = 1 , 2 do goto a end for i in b do goto a end :: a ::");
        labelsByNumber();
    }

    // "Two names are the same when their texts have the same number."
    private static void labelsByNumber() {
        int[] texts = {Integer.MIN_VALUE, -1, 0, 1, Integer.MAX_VALUE};
        for (int label : texts) {
            for (int wanted : texts) {
                ChunkCode chunk = new ChunkCode();
                Check.give(chunk, "; goto");
                chunk.word(1, wanted);
                Check.give(chunk, "::");
                chunk.word(1, label);
                Check.give(chunk, "::");
                CHECK.same("goto " + wanted + " with label " + label, label == wanted ? 1 : -12, chunk.compile());
                CHECK.same("its place", label == wanted ? 6 : 1, chunk.place());
            }
        }
    }

    // 13: "a label of a name for which one can be seen already (one before it): at its name"
    private static void labelsTwice() {
        CHECK.fault(13, 4, ":: a :: :: a ::");
        CHECK.fault(13, 4, ":: a :: :: a :: :: a ::");
        CHECK.fault(13, 7, ":: a :: :: b :: :: a ::");
        CHECK.fault(13, 5, ":: a :: do :: a :: end");
        CHECK.fault(13, 7, ":: a :: while b do :: a :: end");
        CHECK.fault(13, 5, ":: a :: repeat :: a :: until b");
        CHECK.fault(13, 9, ":: a :: if b then else ; :: a :: end");
        CHECK.fault(13, 10, ":: a :: for i in b do ; :: a :: end");
        CHECK.fault(13, 9, "function b ( ) :: a :: ; :: a :: end");
        CHECK.noFault("do :: a :: end :: a ::");
        CHECK.noFault("do :: a :: end do :: a :: end");
        CHECK.noFault("if b then :: a :: elseif c then :: a :: else :: a :: end");
        CHECK.noFault("repeat :: a :: until b :: a ::");
        CHECK.noFault(":: a :: function b ( ) :: a :: end");
        CHECK.noFault("function b ( ) :: a :: end :: a ::");
        CHECK.noFault(":: a :: :: b ::");
    }

    // 14: "goto that leads forward to a label of its block or of one around it, behind a local's declaration"
    private static void gotosOverALocal() {
        CHECK.fault(14, 0, "goto a local b :: a :: c ( )");
        CHECK.fault(14, 1, "; goto a local b = 1 :: a :: c ( )");
        CHECK.fault(14, 0, "goto a local function b ( ) end :: a :: c ( )");
        CHECK.fault(14, 2, "local b goto a local b :: a :: c ( )");
        CHECK.fault(14, 1, "do goto a end local b :: a :: c ( )");
        CHECK.fault(14, 2, "do do goto a end end local b :: a :: c ( )");
        CHECK.fault(14, 3, "do local d goto a end local b :: a :: c ( )");
        CHECK.fault(14, 3, "while d do goto a end local b :: a :: c ( )");
        CHECK.fault(14, 7, "for i = 1 , 2 do goto a end local b :: a :: c ( )");
        CHECK.fault(14, 5, "for i in d do goto a end local b :: a :: c ( )");
        CHECK.fault(14, 5, "for i in d do goto a local b :: a :: c ( ) end");
        CHECK.fault(14, 1, "repeat goto a until d local b :: a :: c ( )");
        CHECK.fault(14, 4, "function d ( ) goto a local b :: a :: c ( ) end");
        CHECK.fault(14, 0, "goto a :: d :: local b :: a :: c ( )");
        CHECK.fault(14, 3, "do goto d goto a :: d :: end local b :: a :: c ( )");
        CHECK.fault(14, 4, "local b goto a goto d :: a :: local b :: d :: c ( )");
    }

    // ".. (in that block, behind goto's own place there)"
    private static void gotosOverNoLocal() {
        CHECK.noFault("local b goto a :: a :: c ( )");
        CHECK.noFault("goto a :: a :: local b c ( )");
        CHECK.noFault("goto a do local b end :: a :: c ( )");
        CHECK.noFault("do goto a local b end :: a :: c ( )");
        CHECK.noFault("local b do goto a end :: a :: c ( )");
        CHECK.noFault("local b do local d goto a local e end :: a :: c ( )");
        CHECK.noFault("goto a for i = 1 , 2 do end for i in b do end :: a :: c ( )");
        CHECK.noFault("goto a function b ( c ) local d end :: a :: c ( )");
        CHECK.noFault("goto a repeat local b until b :: a :: c ( )");
        CHECK.noFault(":: a :: local b goto a ; c = 1");
        CHECK.noFault(":: a :: local b do local d goto a end c ( )");
        CHECK.noFault("for i = 1 , 2 do goto a :: a :: c ( ) end");
        CHECK.noFault("for i in b do goto a :: a :: c ( ) end");
        CHECK.noFault("function b : d ( e ) goto a :: a :: c ( ) end");
        CHECK.noFault("function b ( d , e , f ) do goto a end :: a :: c ( ) end");
        CHECK.noFault("local b do goto a local d goto e :: a :: end :: e :: c ( )");
    }

    // 15: "... in a function whose names have none: at it"
    private static void dots() {
        CHECK.noFault("return ...");
        CHECK.noFault("do a = { ... } end");
        CHECK.noFault("function a ( ... ) return ... end");
        CHECK.noFault("function a ( b , ... ) return ... end");
        CHECK.noFault("function a : b ( ... ) return ... end");
        CHECK.noFault("local function a ( ... ) return ... end");
        CHECK.noFault("return function ( ... ) return ... end");
        CHECK.noFault("function a ( ) return function ( ... ) return ... end end");
        CHECK.fault(15, 5, "function a ( ) return ... end");
        CHECK.fault(15, 6, "function a ( b ) return ... end");
        CHECK.fault(15, 7, "function a : b ( ) return ... end");
        CHECK.fault(15, 6, "local function a ( ) return ... end");
        CHECK.fault(15, 5, "return function ( ) return ... end");
        CHECK.fault(15, 10, "function a ( ... ) return function ( ) return ... end end");
        CHECK.fault(15, 11, "function a ( ) return function ( ... ) end , ... end");
        CHECK.fault(15, 6, "function a ( ) b ( ... , ... ) end");
        CHECK.fault(15, 7, "function a ( ) b = { ... } end");
        CHECK.fault(15, 6, "function a ( ) return ( ... ) end");
        CHECK.fault(15, 5, "function a ( ) while ... do end end");
    }
}
