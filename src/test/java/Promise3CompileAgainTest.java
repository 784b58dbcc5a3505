/** Promise 3: the words are gone behind compile(), with and without a fault, and nothing of them is left. */
public final class Promise3CompileAgainTest {
    private static final Check CHECK = new Check();

    public static void main(String[] args) {
        withoutWords();
        afterWords();
        afterAFault();
        manyTimes();
        nothingIsLeft();
        nothingOfAFunctionIsLeft();
        wordsCountFromNothing();
        askingChangesNothing();
        allCallsOfAnObject();
        CHECK.end();
    }

    private static void isEmptyChunk(String when, ChunkCode chunk) {
        CHECK.same(when + ": compile", 1, chunk.compile());
        CHECK.same(when + ": place", 0, chunk.place());
        CHECK.same(when + ": functions", 1, chunk.functions());
        CHECK.same(when + ": code", "RETURN", Check.listing(chunk, 0));
        CHECK.same(when + ": words", 0, chunk.function(0, 3));
        CHECK.same(when + ": most locals", 0, chunk.function(0, 4));
        CHECK.same(when + ": depth", 0, chunk.depth(0));
        CHECK.same(when + ": flaws", 0, chunk.flaws());
        CHECK.same(when + ": no function 1", ChunkCode.BAD, chunk.function(1, 0));
        CHECK.same(when + ": no instruction 1", ChunkCode.BAD, chunk.code(0, 1, 0));
    }

    private static void withoutWords() {
        ChunkCode chunk = new ChunkCode();
        isEmptyChunk("the first", chunk);
        isEmptyChunk("the second", chunk);
        CHECK.same("a bad word", ChunkCode.BAD, chunk.word(0, 0));
        isEmptyChunk("behind a bad word", chunk);
    }

    private static void afterWords() {
        ChunkCode chunk = Check.compiled("local a , b function c ( d ) return a , d end return 1 , 2 , 3");
        CHECK.same("two functions", 2, chunk.functions());
        CHECK.same("its words", 20, chunk.place());
        isEmptyChunk("behind words", chunk);
    }

    private static void afterAFault() {
        String[] sources = {"local a )", "a =", Check.times(49, "do"), "local a < b >", "local a < const > a = 1", "break",
            "goto a", ":: a :: :: a ::", "goto a local b :: a :: c ( )", "function a ( ) return ... end",
            Check.times(201, "local a")};
        for (int i = 0; i < sources.length; i++) {
            ChunkCode chunk = new ChunkCode();
            Check.give(chunk, sources[i]);
            int kind = i < 2 ? 7 : 6 + i;
            CHECK.same(sources[i], -kind, chunk.compile());
            CHECK.same("no functions", 0, chunk.functions());
            isEmptyChunk("behind " + sources[i], chunk);
        }
    }

    private static void manyTimes() {
        ChunkCode chunk = new ChunkCode();
        for (int n = 0; n < 5; n++) {
            Check.give(chunk, "local a return function ( ) return a end");
            CHECK.same("again", 2, chunk.compile());
            CHECK.same("its chunk", "NIL; DECLARE 0 1; CLOSURE 1 0 3; RETURN 1 0 2; RETURN 0 0 9",
                Check.listing(chunk, 0));
            CHECK.same("its function", "OUTER 0 0 7; RETURN 1 0 6; RETURN 0 0 8", Check.listing(chunk, 1));
            CHECK.same("its outer locals", 1, chunk.function(1, 5));
            Check.give(chunk, "return function ( ) return a end )");
            CHECK.same("a fault", -7, chunk.compile());
            CHECK.same("at the last word", 7, chunk.place());
        }
    }

    /** Each first text stops somewhere inside; the second one must not know of it. */
    private static void nothingIsLeft() {
        behind("local a", "return a", "GLOBAL 1 0 1; RETURN 1; RETURN 0 0 2");
        behind("local a = (", "return a", "GLOBAL 1 0 1; RETURN 1; RETURN 0 0 2");
        behind("local a < const > = 1", "a = 1", "NUMBER 1; SETGLOBAL 1; RETURN 0 0 3");
        behind("local a do local b do", "local c", "NIL; DECLARE 0 1; RETURN 0 0 2");
        behind("local a < close > = 1", "return f ( )", "GLOBAL 6 0 1; TAIL 0 0 2; RETURN 0 0 4");
        behind("for i in a do", "return f ( )", "GLOBAL 6 0 1; TAIL 0 0 2; RETURN 0 0 4");
        behind(":: a ::", ":: a :: goto a", "STEP 0 0 3; LEAVE; JUMP; RETURN 0 0 5");
        behind(":: a :: do do", ":: a :: goto a", "STEP 0 0 3; LEAVE; JUMP; RETURN 0 0 5");
        behind("goto a do goto b )", "; ;", "RETURN 0 0 2");
        behind("function a ( ) do", "return ...", "DOTS; RETURN 0 1; RETURN 0 0 2");
        behind("function a ( b ) local c (", "return function ( ) end", "CLOSURE 1 0 1; RETURN 1; RETURN 0 0 5");
        behind("a , b . c , d [ 1 ] (", "a = 1", "NUMBER 1; SETGLOBAL 1; RETURN 0 0 3");
        behind("return - - a + b * ( c ^", "return a", "GLOBAL 1 0 1; RETURN 1; RETURN 0 0 2");
        behind("return a and b or )", "return a", "GLOBAL 1 0 1; RETURN 1; RETURN 0 0 2");
        behind("f ( ) f ( g (", "return 1", "NUMBER 1; RETURN 1; RETURN 0 0 2");
        ChunkCode chunk = Check.compiled("while a do while b do");
        Check.give(chunk, "break");
        CHECK.same("no loop is left", -11, chunk.compile());
        chunk = Check.compiled(":: a ::");
        Check.give(chunk, "goto a");
        CHECK.same("no label is left", -12, chunk.compile());
    }

    private static void behind(String first, String second, String due) {
        ChunkCode chunk = Check.compiled(first);
        Check.give(chunk, second);
        CHECK.same(second + " behind " + first + ": no fault", "true", String.valueOf(chunk.compile() > 0));
        CHECK.same(second + " behind " + first, due, Check.listing(chunk, 0));
        CHECK.same("its words", Check.length(second), chunk.place());
    }

    private static void nothingOfAFunctionIsLeft() {
        ChunkCode chunk = Check.compiled("local a function b : c ( d , ... ) local e = a end");
        Check.give(chunk, "function a ( ) end");
        CHECK.same("compile", 2, chunk.compile());
        int[] due = {0, 0, 0, 3, 0, 0, 1, 0};
        for (int what = 0; what < due.length; what++) {
            CHECK.same("function 1 " + what, due[what], chunk.function(1, what));
        }
        Check.give(chunk, "function a ( ... ) return ... end");
        CHECK.same("with three dots", 2, chunk.compile());
        Check.give(chunk, "function a ( ) return ... end");
        CHECK.same("without them", -15, chunk.compile());
        ChunkCode refused = Check.compiled("local x function a ( b ) local function c ( d ) return ( x");
        Check.give(refused, "local c function d ( ) return c end");
        CHECK.same("compile behind open functions", 2, refused.compile());
        CHECK.same("around the chunk", -1, refused.function(0, 0));
        CHECK.same("around function 1", 0, refused.function(1, 0));
        CHECK.same("its outer locals", 1, refused.function(1, 5));
        CHECK.same("from a slot", 1, refused.outer(1, 0, 0));
        CHECK.same("slot 0", 0, refused.outer(1, 0, 1));
    }

    private static void wordsCountFromNothing() {
        ChunkCode chunk = new ChunkCode();
        CHECK.same("third", 3, Check.give(chunk, "; ; ;"));
        chunk.compile();
        CHECK.same("first behind compile", 1, chunk.word(67, 0));
        CHECK.same("second behind compile", 2, chunk.word(61, 0));
        CHECK.same("a fault", -7, chunk.compile());
        CHECK.same("first behind a fault", 1, chunk.word(67, 0));
        CHECK.same("place is still the fault's", 1, chunk.place());
    }

    // Only compile changes what there is.
    private static void askingChangesNothing() {
        ChunkCode chunk = Check.compiled("local a return function ( ) return a end");
        Check.give(chunk, "break");
        for (int n = 0; n < 3; n++) {
            CHECK.same("functions", 2, chunk.functions());
            CHECK.same("place", 9, chunk.place());
            CHECK.same("function", 9, chunk.function(0, 3));
            CHECK.same("outer", 1, chunk.outer(1, 0, 0));
            CHECK.same("code", 9, chunk.code(1, 0, 0));
            CHECK.same("depth", 1, chunk.depth(1));
            CHECK.same("flaws", 0, chunk.flaws());
            CHECK.same("bad", ChunkCode.BAD, chunk.code(2, 0, 0));
        }
        CHECK.same("break alone", -11, chunk.compile());
    }

    // "An object is used for at most 512 calls": 510 words, compile() and one question.
    private static void allCallsOfAnObject() {
        ChunkCode chunk = new ChunkCode();
        CHECK.same("words", 510, Check.give(chunk, Check.times(102, "function a ( ) end")));
        CHECK.same("functions", 103, chunk.compile());
        CHECK.same("the last one's word", 505, chunk.function(102, 7));
        ChunkCode again = new ChunkCode();
        for (int n = 1; n <= 512; n++) {
            CHECK.same("compile " + n, 1, again.compile());
        }
    }
}
