/** Promise 1: a new object has no words, and function 0 with one instruction, RETURN. */
public final class Promise1NewObjectTest {
    public static void main(String[] args) {
        Check check = new Check();
        newObject(check);
        sameAsNoWords(check);
        itsInstruction(check);
        nothingElse(check);
        objectsAreApart(check);
        check.same("the first word is the first", 1, new ChunkCode().word(67, 0));
        check.end();
    }

    private static void newObject(Check check) {
        ChunkCode chunk = new ChunkCode();
        check.same("functions", 1, chunk.functions());
        check.same("place", 0, chunk.place());
        check.same("code", "RETURN", Check.listing(chunk, 0));
        check.same("around", -1, chunk.function(0, 0));
        check.same("names", 0, chunk.function(0, 1));
        check.same("three dots", 1, chunk.function(0, 2));
        check.same("words", 0, chunk.function(0, 3));
        check.same("locals", 0, chunk.function(0, 4));
        check.same("outer locals", 0, chunk.function(0, 5));
        check.same("instructions", 1, chunk.function(0, 6));
        check.same("word function", -1, chunk.function(0, 7));
        check.same("depth", 0, chunk.depth(0));
        check.same("flaws", 0, chunk.flaws());
        check.same("no function 1", ChunkCode.BAD, chunk.function(1, 0));
    }

    private static void itsInstruction(Check check) {
        ChunkCode chunk = new ChunkCode();
        check.same("op", 45, chunk.code(0, 0, 0));
        check.same("a", 0, chunk.code(0, 0, 1));
        check.same("b", 0, chunk.code(0, 0, 2));
        check.same("w", 0, chunk.code(0, 0, 3));
        check.same("no second one", ChunkCode.BAD, chunk.code(0, 1, 0));
        check.same("none before it", ChunkCode.BAD, chunk.code(0, -1, 0));
    }

    private static void nothingElse(Check check) {
        ChunkCode chunk = new ChunkCode();
        check.same("no outer local", ChunkCode.BAD, chunk.outer(0, 0, 0));
        for (int what = 0; what <= 7; what++) {
            check.same("no function 1", ChunkCode.BAD, chunk.function(1, what));
            check.same("no function -1", ChunkCode.BAD, chunk.function(-1, what));
        }
        check.same("no depth of 1", ChunkCode.BAD, chunk.depth(1));
        check.same("no words for compile", 1, chunk.compile());
        check.same("and no place", 0, chunk.place());
    }

    private static void objectsAreApart(Check check) {
        ChunkCode first = Check.compiled("local a function b ( ) end");
        Check.give(first, "; ;");
        ChunkCode second = new ChunkCode();
        check.same("functions of the second", 1, second.functions());
        check.same("its first word", 1, second.word(1, 1));
        second.compile();
        check.same("functions of the first", 2, first.functions());
        check.same("its third word", 3, first.word(67, 0));
    }

    private static void sameAsNoWords(Check check) {
        ChunkCode chunk = new ChunkCode();
        check.same("compile no words", 1, chunk.compile());
        check.same("its code", "RETURN", Check.listing(chunk, 0));
        check.same("its place", 0, chunk.place());
    }
}
