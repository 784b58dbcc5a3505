/** Promises 6 to 8: what a name means and where it is, at the edges of where a local is there. */
public final class Promise8NamesTest {
    private static final Check CHECK = new Check();

    public static void main(String[] args) {
        behindTheStatement();
        inItsOwnBody();
        inTheForsBlock();
        inTheBody();
        inTheRepeatsCondition();
        theLatestOfThatName();
        notBehindItsBlock();
        bySameNumber();
        selfByNumber();
        slots();
        outersInTheOrderOfTheText();
        functionsInTheOrderOfTheirWords();
        everyKind();
        CHECK.end();
    }

    /** The op and the number of what the name at a word means, in any function. */
    private static void means(String due, int word, String source) {
        CHECK.same("word " + word + " of " + source, due, meaning(Check.compiled(source), word));
    }

    private static String meaning(ChunkCode chunk, int word) {
        String[] ops = {"local ", "outer ", "global "};
        for (int f = 0; f < chunk.functions(); f++) {
            for (int i = 0; i < chunk.function(f, 6); i++) {
                int op = chunk.code(f, i, 0);
                boolean ofName = op >= 8 && op <= 10 || op >= 29 && op <= 31;
                if (ofName && chunk.code(f, i, 3) == word) {
                    return ops[op < 29 ? op - 8 : op - 29] + chunk.code(f, i, 1);
                }
            }
        }
        return "nothing";
    }

    // "by local (it is there behind the statement)"
    private static void behindTheStatement() {
        means("global 1", 3, "local a = a");
        means("local 0", 5, "local a = 1 ; a = 2");
        means("global 2", 5, "local a , b = b , a");
        means("global 1", 7, "local a , b = b , a");
        means("local 0", 5, "local a local a = a");
        means("global 1", 7, "local a = function ( ) return a end");
        means("local 0", 5, "local a < const > a ( )");
    }

    // "local function (there in its own body already)"
    private static void inItsOwnBody() {
        means("outer 0", 6, "local function a ( ) return a end");
        means("local 0", 6, "local function a ( ) end a ( )");
        means("global 1", 6, "a = function ( ) return a end");
        means("global 1", 5, "function a ( ) return a end");
    }

    // "for (in its block)"
    private static void inTheForsBlock() {
        means("global 9", 3, "for i = i , 2 do end");
        means("global 9", 5, "for i = 1 , i do end");
        means("global 9", 7, "for i = 1 , 2 , i do end");
        means("local 3", 7, "for i = 1 , 2 do i ( ) end");
        means("global 9", 8, "for i = 1 , 2 do end i ( )");
        means("global 9", 3, "for i in i do end");
        means("local 4", 5, "for i in a do i ( ) end");
        means("local 5", 7, "for i , j in a do j ( ) end");
        means("global 9", 6, "for i in a do end i ( )");
        means("local 7", 14, "for i = 1 , 2 do for j = i , 2 do j ( ) end end");
        means("local 3", 10, "for i = 1 , 2 do for j = i , 2 do j ( ) end end");
    }

    // "the names of a body (in its block; in a body declared with : the first one is self)"
    private static void inTheBody() {
        means("local 0", 5, "function a ( b ) b ( ) end");
        means("local 1", 7, "function a ( b , c ) c ( ) end");
        means("global 2", 6, "function a ( b ) end b ( )");
        means("local 0", 6, "function a : b ( ) self ( ) end");
        means("local 1", 7, "function a : b ( c ) c ( ) end");
        means("global -1", 6, "function a . b ( ) self ( ) end");
        means("global -1", 7, "function a : b ( ) end self ( )");
        means("local 1", 7, "function a : b ( self ) self ( ) end");
        means("outer 0", 10, "function a : b ( ) function c ( ) self ( ) end end");
    }

    // "a BLOCK is the words of a block of the grammar (that of repeat with its condition)"
    private static void inTheRepeatsCondition() {
        means("local 0", 4, "repeat local a until a");
        means("global 1", 5, "repeat local a until a a ( )");
        means("global 1", 6, "repeat do local a end until a");
        means("outer 0", 7, "repeat local a until function ( ) a ( ) end");
        means("global 1", 1, "while a do local a end");
        means("global 1", 6, "if b then local a elseif a then end");
    }

    private static void theLatestOfThatName() {
        means("local 1", 4, "local a local a a ( )");
        means("local 1", 4, "local a , a a ( )");
        means("local 1", 7, "function b ( a , a ) a ( ) end");
        means("local 5", 7, "for a , a in b do a ( ) end");
        means("local 1", 5, "local a do local a a ( ) end");
        means("local 0", 6, "local a do local a end a ( )");
        means("local 0", 7, "local a function b ( a ) a ( ) end");
        means("outer 0", 8, "local a local a function b ( ) a ( ) end");
    }

    private static void notBehindItsBlock() {
        means("global 1", 4, "do local a end a ( )");
        means("global 1", 6, "while b do local a end a ( )");
        means("global 1", 6, "if b then local a else a ( ) end");
        means("global 1", 8, "if b then local a elseif c then a ( ) end");
        means("global 1", 7, "function b ( ) local a end a ( )");
        means("global 1", 8, "do local a end function b ( ) a ( ) end");
    }

    // "Two names are the same when their texts have the same number."
    private static void bySameNumber() {
        int[] texts = {Integer.MIN_VALUE, -4, -3, -2, -1, 0, 1, Integer.MAX_VALUE};
        for (int declared : texts) {
            for (int meant : texts) {
                ChunkCode chunk = new ChunkCode();
                chunk.word(22, 5);
                chunk.word(1, declared);
                chunk.word(1, meant);
                Check.give(chunk, "( )");
                chunk.compile();
                CHECK.same("local " + declared + ", then " + meant, declared == meant ? "local 0" : "global " + meant,
                    meaning(chunk, 2));
            }
        }
    }

    private static void selfByNumber() {
        for (int text : new int[] {-2, -1, 0}) {
            ChunkCode chunk = new ChunkCode();
            Check.give(chunk, "function a : b ( )");
            chunk.word(1, text);
            Check.give(chunk, "( ) end");
            chunk.compile();
            CHECK.same("name " + text + " in a body with self", text == -1 ? "local 0" : "global " + text, meaning(chunk, 6));
        }
    }

    // "A local's SLOT is how many locals of its function are there when it is declared"
    private static void slots() {
        CHECK.code(0, "local a local b , c do local d end local e",
            "NIL; DECLARE 0 1; NIL; NIL; DECLARE 1 2 2; NIL; DECLARE 3 1 7; LEAVE 3; NIL; DECLARE 3 1 10; RETURN 0 0 12");
        CHECK.code(1, "local a , b function c ( d ) local e end", "NIL; DECLARE 1 1 9; RETURN 0 0 11");
        CHECK.code(1, "local a function b : c ( d ) local e end", "NIL; DECLARE 2 1 9; RETURN 0 0 11");
        CHECK.code(0, "for i = 1 , 2 do local a end local b", "NUMBER 1; NUMBER 2; NUMBER -4; FORBEGIN 0 10; STEP; ROUND; "
            + "NIL; DECLARE 4 1 7; LEAVE 3; FORNEXT 0 4; FOREND; NIL; DECLARE 0 1 10; RETURN 0 0 12");
    }

    // "numbered in the order in which names in its body, or in bodies in it, first mean them, by their places"
    private static void outersInTheOrderOfTheText() {
        outers("1 0, 1 1", 1, "local a , b function c ( ) a = b end");
        outers("1 1, 1 0", 1, "local a , b function c ( ) b = a end");
        outers("1 1, 1 0", 1, "local a , b function c ( ) b [ a ] = 1 end");
        outers("1 1, 1 0", 1, "local a , b function c ( ) b . c , a = 1 end");
        outers("1 1, 1 0", 1, "local a , b function c ( ) function b ( ) return a end end");
        outers("1 0", 2, "local b function c ( ) local d function e ( ) return d end end");
        outers("1 1", 1, "local a local a function b ( ) a ( ) end");
        outers("1 1, 1 0", 1, "local a , b function c ( ) function d ( ) return b end return a end");
        outers("0 0", 2, "local a , b function c ( ) function d ( ) return b end return a end");
        outers("1 0, 1 1", 1, "local a , b function c ( ) return a , b , a , b end");
        outers("1 0, 0 0", 2, "local a function b ( c ) return function ( ) return c , a end end");
        outers("", 1, "local a function b ( ) local a return a end");
        outers("1 0", 1, "local a function b ( ) local a = a end");
        outers("1 0", 1, "local a function b ( ) return function ( ) return a end end");
    }

    private static void outers(String due, int f, String source) {
        ChunkCode chunk = Check.compiled(source);
        StringBuilder got = new StringBuilder();
        for (int i = 0; i < chunk.function(f, 5); i++) {
            got.append(i == 0 ? "" : ", ").append(chunk.outer(f, i, 0)).append(' ').append(chunk.outer(f, i, 1));
        }
        CHECK.same("outer locals of " + f + " of " + source, due, got.toString());
    }

    // "FUNCTIONS are numbered in the order of their words (, the chunk being 0."
    private static void functionsInTheOrderOfTheirWords() {
        ChunkCode chunk = Check.compiled("function a ( ) b = function ( ) end end local function c ( ) end "
            + "return { function ( ) end } , function ( ) end");
        int[] words = {-1, 0, 6, 12, 19, 25};
        int[] around = {-1, 0, 1, 0, 0, 0};
        CHECK.same("functions", words.length, chunk.functions());
        for (int f = 0; f < words.length; f++) {
            CHECK.same("word of " + f, words[f], chunk.function(f, 7));
            CHECK.same("around " + f, around[f], chunk.function(f, 0));
        }
    }

    // Each kind of word has its own part in the grammar.
    private static void everyKind() {
        String[] binary = {"<", ">", "<=", ">=", "~=", "==", "|", "~", "&", "<<", ">>", "..", "+", "-", "*", "/", "//",
            "%", "^"};
        int[] binaryKinds = {57, 58, 55, 56, 54, 53, 49, 48, 47, 50, 51, 71, 40, 41, 42, 43, 52, 44, 45};
        for (int i = 0; i < binary.length; i++) {
            CHECK.code(0, "return a " + binary[i] + " b",
                "GLOBAL 1 0 1; GLOBAL 2 0 3; BINARY " + binaryKinds[i] + " 0 2; RETURN 1; RETURN 0 0 4");
        }
        String[] unary = {"-", "#", "~"};
        int[] unaryKinds = {41, 46, 48};
        for (int i = 0; i < unary.length; i++) {
            CHECK.code(0, "return " + unary[i] + " b", "GLOBAL 2 0 2; UNARY " + unaryKinds[i] + " 0 1; RETURN 1; RETURN 0 0 3");
        }
    }
}
