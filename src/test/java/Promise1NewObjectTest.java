/** Promise 1: a new object has no words, and function 0 with one instruction, RETURN. */
public final class Promise1NewObjectTest {
    public static void main(String[] args) {
        Check check = new Check();
        newObject(check);
        sameAsNoWords(check);
        check.same("the first word is the first", 1, new ChunkCode().word(67, 0));
        check.end();
    }

    private static void newObject(Check check) {
        ChunkCode chunk = new ChunkCode();
        check.same("functions", 1, chunk.functions());
        check.same("place", 0, chunk.place());
        check.same("code", "RETURN", Check.listing(chunk, 0));
        check.same("around", -1, chunk.function(0, 0));
        check.same("names", 0, chunk.function(0, 1));
        check.same("three dots", 1, chunk.function(0, 2));
        check.same("words", 0, chunk.function(0, 3));
        check.same("locals", 0, chunk.function(0, 4));
        check.same("outer locals", 0, chunk.function(0, 5));
        check.same("instructions", 1, chunk.function(0, 6));
        check.same("word function", -1, chunk.function(0, 7));
        check.same("depth", 0, chunk.depth(0));
        check.same("flaws", 0, chunk.flaws());
        check.same("no function 1", ChunkCode.BAD, chunk.function(1, 0));
    }

    private static void sameAsNoWords(Check check) {
        ChunkCode chunk = new ChunkCode();
        check.same("compile no words", 1, chunk.compile());
        check.same("its code", "RETURN", Check.listing(chunk, 0));
        check.same("its place", 0, chunk.place());
    }
}
