/** Promise 7: outer tells where an outer local comes from; BAD when there is none such. */
public final class Promise7OuterTest {
    public static void main(String[] args) {
        Check check = new Check();
        none(check);
        fromSlots(check);
        fromOuterLocals(check);
        whichLocal(check);
        everyMention(check);
        noneSuch(check);
        check.end();
    }

    /** The outer locals of a function: "slot 3" comes from a slot, "outer 1" from an outer local. */
    private static void outers(Check check, int f, String due, String source) {
        ChunkCode chunk = Check.compiled(source);
        StringBuilder got = new StringBuilder();
        for (int i = 0; i < chunk.function(f, 5); i++) {
            got.append(i == 0 ? "" : ", ").append(chunk.outer(f, i, 0) == 1 ? "slot " : "outer ").append(chunk.outer(f, i, 1));
        }
        check.same("outer locals, function " + f + " of " + source, due, got.toString());
    }

    private static void none(Check check) {
        outers(check, 0, "", "local a a = a");
        outers(check, 1, "", "local a b = function ( ) end");
        outers(check, 1, "", "b = function ( ) return a end local a");
        outers(check, 1, "", "local a b = function ( a ) return a end");
        outers(check, 1, "", "local a = function ( ) return a end");
        outers(check, 1, "", "do local a end b = function ( ) return a end");
    }

    private static void fromSlots(Check check) {
        outers(check, 1, "slot 0", "local a b = function ( ) return a end");
        outers(check, 1, "slot 1, slot 0", "local a , b c = function ( ) return b , a , b end");
        outers(check, 1, "slot 0", "local function a ( ) return a end");
        outers(check, 1, "slot 3", "for i = 1 , 2 do b = function ( ) return i end end");
        outers(check, 1, "slot 5, slot 4", "for i , j in a do b = function ( ) return j , i end end");
        outers(check, 2, "slot 0, slot 1", "function a : b ( c ) return function ( ) return self , c end end");
        outers(check, 1, "slot 0", "repeat local a until function ( ) return a end");
        outers(check, 1, "slot 2", "local a , b local a c = function ( ) return a end");
    }

    private static void fromOuterLocals(Check check) {
        String source = "local a , b c = function ( ) local d return function ( ) return b , d , a end end";
        outers(check, 1, "slot 1, slot 0", source);
        outers(check, 2, "outer 0, slot 0, outer 1", source);
        String deep = "local a return function ( ) return function ( ) return function ( ) a = 1 end end end";
        outers(check, 1, "slot 0", deep);
        outers(check, 2, "outer 0", deep);
        outers(check, 3, "outer 0", deep);
        String later = "local a , b c = function ( ) c = function ( ) return b end return a , b end";
        outers(check, 1, "slot 1, slot 0", later);
        outers(check, 2, "outer 0", later);
    }

    private static void whichLocal(Check check) {
        String two = "do local a b = function ( ) return a end end local c , a b = function ( ) return a end";
        outers(check, 1, "slot 0", two);
        outers(check, 2, "slot 1", two);
        outers(check, 1, "slot 0, slot 1", "local a , b c = function ( ) d = a local a d = a d = b end");
    }

    private static void everyMention(Check check) {
        outers(check, 1, "slot 0", "local a b = function ( ) a = 1 end");
        outers(check, 1, "slot 0", "local a b = function ( ) a . b = 1 end");
        outers(check, 1, "slot 0", "local a b = function ( ) function a ( ) end end");
        outers(check, 1, "slot 0", "local a b = function ( ) function a . c ( ) end end");
        outers(check, 1, "slot 1, slot 0", "local a , b c = function ( ) b , a = a , b end");
        outers(check, 1, "slot 1, slot 0", "local a , b c = function ( ) b [ a ] = 1 end");
        outers(check, 1, "slot 0, slot 1", "local a , b c = function ( ) a = function ( ) b = 1 end end");
    }

    private static void noneSuch(Check check) {
        ChunkCode chunk = Check.compiled("local a b = function ( ) return a end");
        check.same("from a slot", 1, chunk.outer(1, 0, 0));
        check.same("slot 0", 0, chunk.outer(1, 0, 1));
        int[][] wrong = {{0, 0, 0}, {1, 1, 0}, {1, -1, 0}, {2, 0, 0}, {-1, 0, 0}, {1, 0, 2}, {1, 0, -1}, {1, 0, 3},
            {Integer.MAX_VALUE, 0, 0}, {Integer.MIN_VALUE, 0, 0}, {1, Integer.MAX_VALUE, 0},
            {1, Integer.MIN_VALUE, 0}, {1, 0, Integer.MAX_VALUE}, {1, 0, Integer.MIN_VALUE}};
        for (int[] w : wrong) {
            check.same("outer " + w[0] + " " + w[1] + " " + w[2], ChunkCode.BAD, chunk.outer(w[0], w[1], w[2]));
        }
        check.same("of a new object", ChunkCode.BAD, new ChunkCode().outer(0, 0, 0));
        Check.give(chunk, "b = function ( ) return a end");
        chunk.compile();
        check.same("the former one is gone", ChunkCode.BAD, chunk.outer(1, 0, 0));
    }
}
