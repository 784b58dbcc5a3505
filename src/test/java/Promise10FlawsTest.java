/** Promise 10: flaws answers how many instructions are flawed: of compiled words none ever is. */
public final class Promise10FlawsTest {
    public static void main(String[] args) throws ReflectiveOperationException {
        Check check = new Check();
        noneEver(check);
        noFunctions(check);
        jumps(check);
        slots(check);
        outersAndClosures(check);
        stack(check);
        lastOne(check);
        ofAllFunctions(check);
        upToTheEdge(check);
        countedOnce(check);
        check.end();
    }

    private static void noneEver(Check check) {
        String[] sources = {"", "a = 1", "return f ( ... )", "local a , b = f ( ) return a and b or c",
            "while a do local b break end", "repeat local a if a then break end until a", "repeat until a",
            "if a then local b elseif c then else d ( ) end", "for i = 1 , 2 do local a break end",
            "for i , j in a do local b break end", "goto a local b :: a ::", ":: a :: do local b goto a end",
            "local a < close > = 1 return f ( )", "a . b , c [ d ] , e = 1", "a : b { 1 , [ 2 ] = 3 , c = 4 , ... }",
            "local a return function ( b ) a = function ( ... ) return a , b , ... end end",
            "function a . b : c ( ) return self : d ( ) end local function f ( ) return f end",
            Check.times(47, "a = function ( b ) local c = b") + Check.times(47, "end"),
            Check.times(200, "local a")};
        for (String source : sources) {
            check.same("flaws of " + source, 0, Check.compiled(source).flaws());
        }
    }

    private static void noFunctions(Check check) {
        check.same("of a new object", 0, new ChunkCode().flaws());
        check.same("after fault 7", 0, Check.compiled("function a ( ) end )").flaws());
        check.same("after fault 12", 0, Check.compiled("function a ( ) end goto b").flaws());
    }

    private static void jumps(Check check) throws ReflectiveOperationException {
        for (int wrong : new int[] {-1, 5, 100, Integer.MAX_VALUE}) {
            flawed(check, "return a and b", 1, 1, wrong);
            flawed(check, "return a or b", 1, 1, wrong);
        }
        flawed(check, "while a do end", 2, 1, 5);
        flawed(check, "while a do end", 3, 1, -1);
        flawed(check, "repeat local a until a", 4, 1, 9);
        flawed(check, "for i = 1 , 2 do end", 3, 2, 10);
        flawed(check, "for i = 1 , 2 do end", 7, 2, -1);
        flawed(check, "for i in a do end", 7, 2, 13);
    }

    private static void slots(Check check) throws ReflectiveOperationException {
        flawed(check, "local a return a", 2, 1, 1);
        flawed(check, "local a return a", 2, 1, -1);
        flawed(check, "local a a = 1", 3, 1, 1);
        flawed(check, "local a < close > = 1", 2, 1, 1);
        flawed(check, "local a , b = 1 , 2", 2, 1, 1);
        flawed(check, "do local a end", 2, 1, 2);
        for (int at : new int[] {3, 5, 7, 8}) {
            flawed(check, "for i = 1 , 2 do end", at, 1, 4);
        }
        flawed(check, "for i = 1 , 2 do end", 5, 1, 1);
        for (int at : new int[] {4, 6, 7, 11}) {
            flawed(check, "for i in a do end", at, 1, 5);
        }
        flawed(check, "for i in a do end", 4, 1, 2);
        flawed(check, "for i in a do end", 6, 2, 2);
        flawed(check, "for i in a do end", 7, 1, 1);
    }

    private static void outersAndClosures(Check check) throws ReflectiveOperationException {
        String source = "local a b = function ( ) a = a end c = function ( ) d = function ( ) end end";
        ChunkCode chunk = Check.compiled(source);
        Check.damage(chunk, 1, 0, 1, 1);
        Check.damage(chunk, 1, 1, 1, -1);
        check.same("outer locals that it has not", 2, chunk.flaws());
        for (int wrong : new int[] {-1, 0, 3, 4}) {
            flawed(check, source, 2, 1, wrong);
        }
    }

    private static void stack(Check check) throws ReflectiveOperationException {
        ChunkCode low = Check.compiled("f ( ) return");
        Check.damage(low, 0, 1, 1, 1);
        check.same("each one behind which the stack is below 0", 3, low.flaws());
        ChunkCode chunk = Check.compiled("goto a :: a :: goto a");
        Check.damage(chunk, 0, 1, 0, 1);
        check.same("a STEP where it is not 0", 1, chunk.flaws());
    }

    private static void lastOne(Check check) throws ReflectiveOperationException {
        ChunkCode chunk = Check.compiled("a = 1");
        Check.damage(chunk, 0, 2, 0, 1);
        check.same("a last one that is no RETURN", 1, chunk.flaws());
    }

    private static void ofAllFunctions(Check check) throws ReflectiveOperationException {
        ChunkCode chunk = Check.compiled("a = function ( ) return b and c end return b and c");
        Check.damage(chunk, 0, 3, 1, 99);
        Check.damage(chunk, 1, 1, 1, 99);
        check.same("of all functions", 2, chunk.flaws());
        chunk.compile();
        check.same("gone with the code", 0, chunk.flaws());
    }

    private static void flawed(Check check, String source, int i, int what, int value)
        throws ReflectiveOperationException {
        ChunkCode chunk = Check.compiled(source);
        Check.damage(chunk, 0, i, what, value);
        check.same(source + ": instruction " + i + " with " + value + " for " + what, 1, chunk.flaws());
    }

    /** What leads, or lies, just inside is no flaw; one further it is. */
    private static void edge(Check check, String source, int i, int what, int inside) throws ReflectiveOperationException {
        ChunkCode chunk = Check.compiled(source);
        Check.damage(chunk, 0, i, what, inside);
        check.same(source + ": instruction " + i + " with " + inside + " for " + what, 0, chunk.flaws());
        flawed(check, source, i, what, inside + 1);
    }

    private static void upToTheEdge(Check check) throws ReflectiveOperationException {
        // The last instruction is one to lead to, and the next number none.
        edge(check, "return a and b", 1, 1, 4);
        edge(check, "return a or b", 1, 1, 4);
        edge(check, "while a do end", 2, 1, 4);
        edge(check, "while a do end", 3, 1, 4);
        edge(check, "repeat local a until a", 4, 1, 8);
        edge(check, "for i = 1 , 2 do end", 3, 2, 9);
        edge(check, "for i = 1 , 2 do end", 7, 2, 9);
        edge(check, "for i in a do end", 7, 2, 12);
        // Slots below the most locals; a LEAVE up to them.
        edge(check, "local a , b return a", 3, 1, 1);
        edge(check, "local a , b a = 1", 4, 1, 1);
        edge(check, "local a < close > , b", 3, 1, 1);
        edge(check, "local a local b", 1, 1, 1);
        edge(check, "do local a end", 2, 1, 1);
        edge(check, "for i = 1 , 2 do end", 3, 1, 3);
        edge(check, "for i = 1 , 2 do local a end", 5, 1, 1);
        edge(check, "for i = 1 , 2 do end", 6, 1, 4);
        edge(check, "for i = 1 , 2 do end", 7, 1, 3);
        edge(check, "for i = 1 , 2 do end", 8, 1, 3);
        edge(check, "for i in a do end", 4, 1, 1);
        edge(check, "for i in a do local b end", 6, 1, 1);
        edge(check, "for i in a do end", 6, 2, 1);
        edge(check, "for i in a do local b end", 7, 1, 1);
        edge(check, "for i in a do end", 8, 1, 5);
        edge(check, "for i in a do end", 11, 1, 4);
    }

    // How many instructions are flawed, not how many flaws they have.
    private static void countedOnce(Check check) throws ReflectiveOperationException {
        ChunkCode chunk = Check.compiled("a = 1");
        Check.damage(chunk, 0, 2, 0, Check.op("SETLOCAL"));
        Check.damage(chunk, 0, 2, 1, 77);
        check.same("no such slot, a stack below 0, and the last one", 1, chunk.flaws());
    }
}
