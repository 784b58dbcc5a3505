/**
 * Promises 5 to 9: "BAD when there is none such, or for another what": below 0, at the count, above it, of a new
 * object, and after a compile() with a fault, when there are no functions.
 */
public final class NoneSuchTest {
    private static final Check CHECK = new Check();
    private static final int[] FAR = {Integer.MIN_VALUE, Integer.MIN_VALUE + 1, -1000, -2, -1, 1 << 16, 1 << 28, 1 << 29,
        1 << 30, Integer.MAX_VALUE - 3, Integer.MAX_VALUE};
    // Three functions; function 1 has two outer locals, function 2 one, and the chunk none.
    private static final String SOURCE = "local a , b function c ( d ) return function ( ... ) return d end , b , a end";
    private static final int[] INSTRUCTIONS = {6, 5, 3};
    private static final int[] OUTERS = {0, 2, 1};

    public static void main(String[] args) {
        counts();
        functionOf();
        outerOf();
        codeOf();
        depthOf();
        ofANewObject();
        afterEachFault();
        againAfterAFault();
        CHECK.end();
    }

    private static ChunkCode three() {
        return Check.compiled(SOURCE);
    }

    private static void bad(String what, int got) {
        CHECK.same(what, ChunkCode.BAD, got);
    }

    private static void there(String what, int got) {
        CHECK.same(what + " is there", "true", String.valueOf(got >= 0));
    }

    private static void counts() {
        ChunkCode chunk = three();
        CHECK.same("functions", 3, chunk.functions());
        for (int f = 0; f < 3; f++) {
            CHECK.same("outer locals of " + f, OUTERS[f], chunk.function(f, 5));
            CHECK.same("instructions of " + f, INSTRUCTIONS[f], chunk.function(f, 6));
        }
    }

    private static void functionOf() {
        ChunkCode chunk = three();
        for (int what = 0; what <= 7; what++) {
            there("function 1 " + what, chunk.function(1, what));
            there("function 2 " + what, chunk.function(2, what));
            bad("function -1 " + what, chunk.function(-1, what));
            bad("function 3 " + what, chunk.function(3, what));
            bad("function 4 " + what, chunk.function(4, what));
            for (int f : FAR) {
                bad("function " + f + " " + what, chunk.function(f, what));
            }
        }
        for (int f = 0; f < 3; f++) {
            bad("function " + f + " 8", chunk.function(f, 8));
            bad("function " + f + " 9", chunk.function(f, 9));
            for (int what : FAR) {
                bad("function " + f + " " + what, chunk.function(f, what));
            }
        }
    }

    private static void outerOf() {
        ChunkCode chunk = three();
        for (int f = 0; f < 3; f++) {
            for (int what = 0; what <= 1; what++) {
                if (OUTERS[f] > 0) {
                    there("outer " + f + " last", chunk.outer(f, OUTERS[f] - 1, what));
                }
                bad("outer " + f + " at the count", chunk.outer(f, OUTERS[f], what));
                bad("outer " + f + " above it", chunk.outer(f, OUTERS[f] + 1, what));
                for (int i : FAR) {
                    bad("outer " + f + " " + i, chunk.outer(f, i, what));
                }
            }
        }
        for (int what : FAR) {
            bad("outer 1 0 " + what, chunk.outer(1, 0, what));
        }
        bad("outer 1 0 2", chunk.outer(1, 0, 2));
        bad("outer 1 0 3", chunk.outer(1, 0, 3));
        bad("outer 1 0 4", chunk.outer(1, 0, 4));
        bad("outer 3 0 0", chunk.outer(3, 0, 0));
        bad("outer 4 0 0", chunk.outer(4, 0, 0));
        for (int f : FAR) {
            bad("outer " + f + " 0 0", chunk.outer(f, 0, 0));
        }
    }

    private static void codeOf() {
        ChunkCode chunk = three();
        for (int f = 0; f < 3; f++) {
            for (int what = 0; what <= 3; what++) {
                there("code " + f + " last", chunk.code(f, INSTRUCTIONS[f] - 1, what));
                bad("code " + f + " at the count", chunk.code(f, INSTRUCTIONS[f], what));
                bad("code " + f + " above it", chunk.code(f, INSTRUCTIONS[f] + 1, what));
                for (int i : FAR) {
                    bad("code " + f + " " + i, chunk.code(f, i, what));
                }
            }
            bad("code " + f + " 0 4", chunk.code(f, 0, 4));
            bad("code " + f + " 0 5", chunk.code(f, 0, 5));
        }
        codeOfNoFunction();
    }

    private static void codeOfNoFunction() {
        ChunkCode chunk = three();
        for (int what : FAR) {
            bad("code 0 0 " + what, chunk.code(0, 0, what));
        }
        for (int what = 0; what <= 3; what++) {
            bad("code 3 0 " + what, chunk.code(3, 0, what));
            bad("code 4 0 " + what, chunk.code(4, 0, what));
            for (int f : FAR) {
                bad("code " + f + " 0 " + what, chunk.code(f, 0, what));
            }
        }
    }

    private static void depthOf() {
        ChunkCode chunk = three();
        CHECK.same("depth 0", 2, chunk.depth(0));
        CHECK.same("depth 1", 3, chunk.depth(1));
        CHECK.same("depth 2", 1, chunk.depth(2));
        bad("depth 3", chunk.depth(3));
        bad("depth 4", chunk.depth(4));
        for (int f : FAR) {
            bad("depth " + f, chunk.depth(f));
        }
    }

    private static void ofANewObject() {
        ChunkCode chunk = new ChunkCode();
        bad("function 1", chunk.function(1, 1));
        bad("function -1", chunk.function(-1, 1));
        bad("another what", chunk.function(0, 8));
        bad("outer", chunk.outer(0, 0, 0));
        bad("outer of function 1", chunk.outer(1, 0, 0));
        bad("instruction 1", chunk.code(0, 1, 0));
        bad("instruction -1", chunk.code(0, -1, 0));
        bad("code with another what", chunk.code(0, 0, 4));
        bad("code of function 1", chunk.code(1, 0, 0));
        bad("depth of 1", chunk.depth(1));
        bad("depth of -1", chunk.depth(-1));
    }

    private static void afterEachFault() {
        String[] faults = {")", Check.times(49, "do"), "local e < f >", "local e < const > e = 1", "break", "goto e",
            ":: e :: :: e ::", "goto e local f :: e :: g ( )", "function e ( ) return ... end",
            "do " + Check.times(201, "local e") + "end"};
        for (int k = 0; k < faults.length; k++) {
            ChunkCode chunk = new ChunkCode();
            Check.give(chunk, SOURCE + " ; " + faults[k]);
            CHECK.same("fault", -7 - k, chunk.compile());
            isWithoutFunctions("after fault " + (7 + k), chunk);
        }
        ChunkCode emptied = three();
        Check.give(emptied, "break");
        emptied.compile();
        isWithoutFunctions("the former ones are gone", emptied);
    }

    private static void isWithoutFunctions(String when, ChunkCode chunk) {
        CHECK.same(when + ": functions", 0, chunk.functions());
        CHECK.same(when + ": flaws", 0, chunk.flaws());
        for (int f = -1; f <= 2; f++) {
            bad(when + ": depth " + f, chunk.depth(f));
            for (int what : new int[] {0, 1, 3, 6}) {
                bad(when + ": function " + f + " " + what, chunk.function(f, what));
                bad(when + ": outer " + f + " " + what, chunk.outer(f, 0, what));
                bad(when + ": code " + f + " " + what, chunk.code(f, 0, what));
            }
        }
    }

    private static void againAfterAFault() {
        ChunkCode chunk = Check.compiled("break");
        Check.give(chunk, SOURCE);
        CHECK.same("compile", 3, chunk.compile());
        CHECK.same("functions", 3, chunk.functions());
        CHECK.same("function", 0, chunk.function(1, 0));
        CHECK.same("outer", 1, chunk.outer(1, 0, 1));
        CHECK.same("code", 45, chunk.code(2, 2, 0));
        CHECK.same("depth", 3, chunk.depth(1));
    }
}
