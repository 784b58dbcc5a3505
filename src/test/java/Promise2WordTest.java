/** Promise 2: word answers how many words there are, BAD for no kind, FULL when there are 16384. */
public final class Promise2WordTest {
    public static void main(String[] args) {
        Check check = new Check();
        kinds(check);
        besideTheRanges(check);
        texts(check);
        badAddsNothing(check);
        countsAnewAfterCompile(check);
        full(check);
        check.end();
    }

    private static void kinds(Check check) {
        for (int kind = -100; kind <= 200; kind++) {
            boolean known = kind >= 1 && kind <= 3 || kind >= 10 && kind <= 31 || kind >= 40 && kind <= 72;
            check.same("kind " + kind, known ? 1 : ChunkCode.BAD, new ChunkCode().word(kind, 0));
        }
        for (int kind : new int[] {Integer.MIN_VALUE, Integer.MAX_VALUE, 1 << 16, 257, -1, 0}) {
            check.same("kind " + kind, ChunkCode.BAD, new ChunkCode().word(kind, 0));
        }
    }

    // Below, between and above the three ranges: no word more, whatever the text.
    private static void besideTheRanges(Check check) {
        ChunkCode chunk = new ChunkCode();
        int[] inside = {1, 2, 3, 10, 11, 30, 31, 40, 41, 71, 72};
        int[] beside = {0, 4, 9, 32, 39, 73, -1, -10, 100, Integer.MIN_VALUE, Integer.MAX_VALUE};
        for (int i = 0; i < inside.length; i++) {
            check.same("kind " + beside[i], ChunkCode.BAD, chunk.word(beside[i], i));
            check.same("kind " + inside[i], i + 1, chunk.word(inside[i], beside[i]));
            check.same("kind " + beside[i] + " again", ChunkCode.BAD, chunk.word(beside[i], -i));
        }
        for (int kind = 4; kind <= 9; kind++) {
            check.same("between the first two: " + kind, ChunkCode.BAD, chunk.word(kind, 0));
        }
        for (int kind = 32; kind <= 39; kind++) {
            check.same("between the last two: " + kind, ChunkCode.BAD, chunk.word(kind, 0));
        }
        check.same("all that were inside", inside.length + 1, chunk.word(72, 0));
    }

    private static void texts(Check check) {
        for (int text : new int[] {Integer.MIN_VALUE, -4, -3, -1, 0, 1, Integer.MAX_VALUE}) {
            ChunkCode chunk = new ChunkCode();
            check.same("return", 1, chunk.word(27, 7));
            check.same("text " + text, 2, chunk.word(3, text));
            check.same("compile", 1, chunk.compile());
            check.same("text " + text + " in the code", text, chunk.code(0, 0, 1));
        }
    }

    private static void badAddsNothing(Check check) {
        ChunkCode chunk = new ChunkCode();
        check.same("first", 1, chunk.word(67, 0));
        check.same("bad", ChunkCode.BAD, chunk.word(4, 0));
        check.same("second", 2, chunk.word(67, 0));
        chunk.compile();
        check.same("words", 2, chunk.place());
    }

    private static void countsAnewAfterCompile(Check check) {
        ChunkCode chunk = new ChunkCode();
        Check.give(chunk, "; ; ;");
        chunk.compile();
        check.same("after a compile", 1, chunk.word(67, 0));
        check.same("after a compile", 2, chunk.word(61, 0));
        chunk.compile();
        check.same("after a fault", 1, chunk.word(67, 0));
    }

    // So many calls are beyond those that the document speaks of; the limit is kept all the same.
    private static void full(Check check) {
        ChunkCode chunk = new ChunkCode();
        for (int i = 1; i <= 16384; i++) {
            int got = chunk.word(67, 0);
            if (got != i) {
                check.same("word " + i, i, got);
            }
        }
        check.same("one too many", ChunkCode.FULL, chunk.word(67, 0));
        check.same("still one too many", ChunkCode.FULL, chunk.word(1, 1));
        check.same("a bad one too many", ChunkCode.BAD, chunk.word(0, 0));
        check.same("compile all", 1, chunk.compile());
        check.same("place", 16384, chunk.place());
        check.same("room again", 1, chunk.word(67, 0));
    }
}
