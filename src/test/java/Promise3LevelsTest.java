/** Promises 3 and 4, fault 8: the 48th and the 49th level, for each word that opens or closes one. */
public final class Promise3LevelsTest {
    private static final Check CHECK = new Check();

    public static void main(String[] args) {
        eachOpeningWord();
        functionWithItsBracket();
        elseClosesOneAndOpensOne();
        eachClosingWord();
        wordsThatOpenNone();
        nestsOfOneWord();
        sevenOrEight();
        levelsBeginAnew();
        CHECK.end();
    }

    /** Opens n levels around a text. */
    private static String in(int levels, String text) {
        return Check.times(levels, "do") + text + " " + Check.times(levels, "end");
    }

    /** The word at a place in the text may open the 48th level, and not the 49th. */
    private static void edge(int at, String text) {
        CHECK.noFault(in(47, text));
        CHECK.fault(8, 48 + at, in(48, text));
    }

    private static void eachOpeningWord() {
        edge(2, "a = ( b )");
        edge(0, "( a ) . b = c");
        edge(1, "a ( )");
        edge(3, "a : b ( )");
        edge(2, "return a ( b )");
        edge(1, "a [ b ] = c");
        edge(3, "a = b [ c ]");
        edge(2, "a = { }");
        edge(1, "a { }");
        edge(3, "a : b { }");
        edge(0, "do end");
        edge(2, "while a do end");
        edge(6, "for i = 1 , 2 do end");
        edge(8, "for i = 1 , 2 , 3 do end");
        edge(4, "for i in a do end");
        edge(2, "if a then end");
        edge(0, "repeat until a");
    }

    // The ( of a body is one level more than its word function, until the ) of its names.
    private static void functionWithItsBracket() {
        String[] texts = {"function a ( ) end", "a = function ( ) end", "local function a ( ) end",
            "function a . b ( ) end", "function a : b ( c , ... ) end", "return function ( b ) end"};
        int[] functions = {0, 2, 1, 0, 0, 1};
        int[] brackets = {2, 3, 3, 4, 4, 2};
        for (int i = 0; i < texts.length; i++) {
            CHECK.noFault(in(46, texts[i]));
            CHECK.fault(8, 47 + brackets[i], in(47, texts[i]));
            CHECK.fault(8, 48 + functions[i], in(48, texts[i]));
        }
        CHECK.noFault(in(46, "function a ( ) do end b ( ) end"));
        CHECK.fault(8, 46 + 5, in(46, "function a ( ) do do end end end"));
    }

    private static void elseClosesOneAndOpensOne() {
        CHECK.noFault(in(47, "if a then else end"));
        CHECK.noFault(in(46, "if a then else do end end"));
        CHECK.fault(8, 47 + 4, in(47, "if a then else do end end"));
        CHECK.noFault(in(47, "if a then else end do end"));
        CHECK.fault(8, 47 + 6, in(47, "if a then else end do do end end"));
        CHECK.noFault(in(47, "if a then elseif b then else end do end"));
        CHECK.fault(8, 47 + 8, in(47, "if a then elseif b then else b ( ) end"));
    }

    private static void eachClosingWord() {
        CHECK.noFault(in(47, "a = ( b ) + ( c )"));
        CHECK.fault(8, 47 + 7, in(47, "a = ( b ) + ( ( c ) )"));
        CHECK.noFault(in(47, "a [ b ] [ c ] = d [ e ]"));
        CHECK.fault(8, 47 + 6, in(47, "a [ b ] [ c [ d ] ] = e"));
        CHECK.noFault(in(47, "a = { } , { }"));
        CHECK.fault(8, 47 + 6, in(47, "a = { } , { { } }"));
        CHECK.noFault(in(47, "do end do end"));
        CHECK.fault(8, 47 + 3, in(47, "do end do do end end"));
        CHECK.noFault(in(47, "repeat until ( a )"));
        CHECK.fault(8, 47 + 3, in(47, "repeat until ( ( a ) )"));
        CHECK.noFault(in(47, "if a then elseif ( b ) then elseif { } then end"));
        CHECK.fault(8, 47 + 5, in(47, "if a then elseif ( ( b ) ) then end"));
        CHECK.fault(8, 47 + 6, in(47, "if a then elseif b then do end end"));
        CHECK.noFault(in(47, "a { } ( ) . b { }"));
        CHECK.noFault(in(45, "function a ( ) end function b ( ) b ( ( c ) ) end"));
    }

    private static void wordsThatOpenNone() {
        CHECK.noFault(in(48, "a . b , c = d . e .. - f ^ 1 , ... , nil , \"s\" ;"));
        CHECK.noFault(in(48, "local a < const > , b < close > = 1"));
        CHECK.noFault(in(48, ":: a :: goto a"));
        CHECK.noFault(in(48, "f \"s\" a : b \"s\""));
        CHECK.noFault(in(48, "return 1 , 2 ;"));
        CHECK.noFault("while b do " + in(47, "break") + " end");
    }

    private static void nestsOfOneWord() {
        nest(0, 1, "do", "end");
        nest(2, 3, "while a do", "end");
        nest(2, 3, "if a then", "end");
        nest(2, 4, "if a then else", "end");
        nest(2, 6, "if a then elseif b then", "end");
        nest(0, 1, "repeat", "until a");
        nest(6, 7, "for i = 1 , 2 do", "end");
        // 48 of these would have too many locals.
        CHECK.noFault(in(28, Check.times(20, "for i in a do") + Check.times(20, "end")));
        CHECK.fault(8, 28 + 20 * 5 + 4, in(28, Check.times(21, "for i in a do") + Check.times(21, "end")));
        CHECK.noFault("a = " + Check.times(48, "(") + "b " + Check.times(48, ")"));
        CHECK.fault(8, 50, "a = " + Check.times(49, "(") + "b " + Check.times(49, ")"));
        CHECK.noFault("a = " + Check.times(48, "{") + Check.times(48, "}"));
        CHECK.fault(8, 50, "a = " + Check.times(49, "{") + Check.times(49, "}"));
        CHECK.noFault("a = " + Check.times(48, "b [") + "b " + Check.times(48, "]"));
        CHECK.fault(8, 2 + 2 * 48 + 1, "a = " + Check.times(49, "b [") + "b " + Check.times(49, "]"));
        CHECK.noFault("a = " + Check.times(48, "b (") + Check.times(48, ")"));
        CHECK.fault(8, 2 + 2 * 48 + 1, "a = " + Check.times(49, "b (") + Check.times(49, ")"));
        CHECK.noFault("a = " + Check.times(24, "{ [") + "b " + Check.times(24, "] = c }"));
        CHECK.fault(8, 2 + 48, "a = " + Check.times(24, "{ [") + "{ } " + Check.times(24, "] = c }"));
        // 47 functions and the ( of the innermost one are 48 levels; of 48 functions its ( is the 49th.
        CHECK.noFault(Check.times(47, "a = function ( )") + Check.times(47, "end"));
        CHECK.fault(8, 47 * 5 + 3, Check.times(48, "a = function ( )") + Check.times(48, "end"));
        CHECK.fault(8, 48 * 3, Check.times(48, "if a then") + "function b ( ) end " + Check.times(48, "end"));
    }

    private static void nest(int at, int length, String before, String behind) {
        CHECK.noFault(Check.times(48, before) + Check.times(48, behind));
        CHECK.fault(8, 48 * length + at, Check.times(49, before) + Check.times(49, behind));
    }

    // "where the chunk may go on with it (whichever comes first)"
    private static void sevenOrEight() {
        for (String word : new String[] {"then", "else", "{", "["}) {
            CHECK.fault(7, 48, Check.times(48, "do") + word);
        }
        for (String word : new String[] {"do", "repeat", "then", "else", "["}) {
            CHECK.fault(7, 50, Check.times(48, "do") + "a = " + word);
        }
        CHECK.fault(7, 47, Check.times(47, "do") + ") do do");
        CHECK.fault(7, 48, Check.times(48, "do") + ") do");
        CHECK.fault(8, 48, Check.times(49, "do") + ")");
        CHECK.fault(8, 48, Check.times(49, "do"));
        CHECK.fault(7, 48, Check.times(48, "do"));
        CHECK.fault(7, 48 + 47, Check.times(48, "do") + Check.times(47, "end"));
        CHECK.fault(7, 48 + 48, Check.times(48, "do") + Check.times(49, "end"));
        CHECK.fault(8, 1 + 48, "break " + Check.times(49, "do") + Check.times(49, "end"));
    }

    private static void levelsBeginAnew() {
        ChunkCode chunk = new ChunkCode();
        for (int n = 0; n < 3; n++) {
            Check.give(chunk, Check.times(49, "do"));
            CHECK.same("49 levels", -8, chunk.compile());
            CHECK.same("at the 49th", 48, chunk.place());
            Check.give(chunk, in(48, ""));
            CHECK.same("48 levels behind them", 1, chunk.compile());
        }
    }
}
