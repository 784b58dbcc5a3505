/** Promise 5: functions answers how many functions there are. */
public final class Promise5FunctionsTest {
    public static void main(String[] args) {
        Check check = new Check();
        check.same("of a new object", 1, new ChunkCode().functions());
        check.same("of no words", 1, Check.compiled("").functions());
        check.same("of a chunk alone", 1, Check.compiled("a = 1").functions());
        check.same("one after the other", 4, Check.compiled(Check.times(3, "function a ( ) end")).functions());
        check.same("one in the other", 4,
            Check.compiled(Check.times(3, "local function a ( )") + Check.times(3, "end")).functions());
        check.same("of each form", 6, Check.compiled("function a ( ) end function a . b ( ) end function a : b ( ) end "
            + "local function a ( ) end a = function ( ) end").functions());
        check.same("of fault 7", 0, Check.compiled("function a ( ) end )").functions());
        check.same("of fault 11", 0, Check.compiled("function a ( ) end break").functions());
        onlyCompileChangesThem(check);
        aDeepNest(check);
        check.end();
    }

    private static void onlyCompileChangesThem(Check check) {
        ChunkCode chunk = new ChunkCode();
        Check.give(chunk, "function a ( ) end");
        check.same("before compile", 1, chunk.functions());
        chunk.compile();
        check.same("after compile", 2, chunk.functions());
        Check.give(chunk, "break");
        check.same("until the next one", 2, chunk.functions());
        chunk.compile();
        check.same("after a fault", 0, chunk.functions());
        chunk.compile();
        check.same("after no words", 1, chunk.functions());
    }

    // 47 functions and the ( of the innermost one are 48 levels.
    private static void aDeepNest(Check check) {
        String nest = Check.times(47, "a = function ( )") + Check.times(47, "end");
        check.same("47 deep", 48, Check.compiled(nest).functions());
        String deeper = Check.times(48, "a = function ( )") + Check.times(48, "end");
        check.same("48 deep", 0, Check.compiled(deeper).functions());
    }
}
