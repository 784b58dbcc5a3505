/** Promises 3, 4 and 6: the 200th and the 201st local, also the hidden ones of both kinds of for. */
public final class Promise4MostLocalsTest {
    private static final Check CHECK = new Check();

    public static void main(String[] args) {
        byLocal();
        byLocalFunction();
        byNamesOfABody();
        bySelf();
        byForWithNumbers();
        byForWithAList();
        forsInFors();
        onlyThoseThatAreThere();
        onlyThoseOfItsFunction();
        theLastSlot();
        CHECK.end();
    }

    private static String locals(int count) {
        return Check.times(count, "local a");
    }

    /** All in one statement: 2 * count words. */
    private static String together(int count) {
        return "local " + Check.times(count - 1, "a ,") + "a ";
    }

    /** Accepted, and so many are there at once. */
    private static void most(int due, int f, String source) {
        CHECK.noFault(source);
        CHECK.same("most locals of " + source, due, Check.compiled(source).function(f, 4));
    }

    private static void byLocal() {
        most(199, 0, locals(199));
        most(200, 0, locals(200));
        CHECK.fault(16, 401, locals(201));
        CHECK.fault(16, 401, locals(202));
        most(200, 0, together(200));
        CHECK.fault(16, 1 + 2 * 200, together(201));
        CHECK.fault(16, 1 + 2 * 200, together(203));
        most(200, 0, locals(198) + "local b , c");
        CHECK.fault(16, 396 + 5, locals(198) + "local b , c , d");
        CHECK.fault(16, 396 + 5, locals(198) + "local b , c , d = 1 , 2");
        CHECK.fault(16, 398 + 6, locals(199) + "local b < const > , d < const >");
    }

    private static void byLocalFunction() {
        most(200, 0, locals(199) + "local function b ( ) end");
        CHECK.fault(16, 400 + 2, locals(200) + "local function b ( ) end");
        // A function that is no local function declares none.
        CHECK.noFault(locals(200) + "function b ( ) end c = function ( ) end");
    }

    private static void byNamesOfABody() {
        most(200, 1, "function b ( " + Check.times(199, "a ,") + "a ) end");
        most(200, 1, "function b ( " + Check.times(200, "a ,") + "... ) end");
        CHECK.fault(16, 3 + 2 * 200, "function b ( " + Check.times(200, "a ,") + "a ) end");
        CHECK.fault(16, 3 + 2 * 200, "function b ( " + Check.times(201, "a ,") + "a ) end");
        CHECK.fault(16, 3 + 400 + 1, "function b ( " + Check.times(199, "a ,") + "a ) local c end");
        most(200, 1, "function b ( " + Check.times(198, "a ,") + "a ) local c end");
    }

    private static void bySelf() {
        most(200, 1, "function b : c ( " + Check.times(198, "a ,") + "a ) end");
        CHECK.fault(16, 5 + 2 * 199, "function b : c ( " + Check.times(199, "a ,") + "a ) end");
        most(200, 1, "function b . c ( " + Check.times(199, "a ,") + "a ) end");
    }

    // "a for with numbers has three hidden ones before its own": at for, its own at its name
    private static void byForWithNumbers() {
        String loop = "for i = 1 , 2 do end";
        most(200, 0, locals(196) + loop);
        CHECK.fault(16, 2 * 197 + 1, locals(197) + loop);
        CHECK.fault(16, 2 * 198, locals(198) + loop);
        CHECK.fault(16, 2 * 199, locals(199) + loop);
        CHECK.fault(16, 2 * 200, locals(200) + loop);
        most(200, 0, locals(195) + "for i = 1 , 2 do local b end");
        CHECK.fault(16, 2 * 196 + 8, locals(196) + "for i = 1 , 2 do local b end");
        CHECK.fault(16, 2 * 198, locals(198) + "for i = 1 , 2 , 3 do end");
    }

    // "a for with a list four"
    private static void byForWithAList() {
        String loop = "for i in b do end";
        most(200, 0, locals(195) + loop);
        CHECK.fault(16, 2 * 196 + 1, locals(196) + loop);
        for (int count = 197; count <= 200; count++) {
            CHECK.fault(16, 2 * count, locals(count) + loop);
        }
        most(200, 0, locals(194) + "for i , j in b do end");
        CHECK.fault(16, 2 * 195 + 3, locals(195) + "for i , j in b do end");
        CHECK.fault(16, 2 * 195 + 3, locals(195) + "for i , j , k in b do end");
        CHECK.fault(16, 2 * 194 + 5, locals(194) + "for i , j , k in b do end");
        most(200, 0, locals(194) + "for i in b do local c end");
        CHECK.fault(16, 2 * 195 + 6, locals(195) + "for i in b do local c end");
    }

    private static void forsInFors() {
        most(192, 0, Check.times(48, "for i = 1 , 2 do") + Check.times(48, "end"));
        most(200, 0, Check.times(40, "for i in b do") + Check.times(40, "end"));
        CHECK.fault(16, 40 * 5, Check.times(41, "for i in b do") + Check.times(41, "end"));
        CHECK.fault(16, 39 * 5 + 5 + 1, Check.times(40, "for i in b do") + "local c " + Check.times(40, "end"));
    }

    private static void onlyThoseThatAreThere() {
        most(200, 0, locals(199) + "do local b end do local b end local b");
        CHECK.fault(16, 398 + 4, locals(199) + "do local b local c end");
        most(200, 0, "do " + locals(200) + "end local b");
        most(200, 0, locals(196) + "for i = 1 , 2 do end for i = 1 , 2 do end local b local c local d local e");
        most(200, 0, locals(195) + "for i in b do end for i in b do end local b , c , d , e , f");
        CHECK.fault(16, 2 * 196 + 8 + 9, locals(196) + "for i = 1 , 2 do end local b , c , d , e , f");
        most(200, 0, locals(199) + "repeat local b until b while b do local c end");
        most(200, 0, locals(199) + "if b then local c elseif d then local e else local f end");
        CHECK.fault(16, 2 * 200 + 2, locals(200) + "repeat local b until b");
    }

    private static void onlyThoseOfItsFunction() {
        most(200, 0, locals(200) + "function b ( c ) local d end");
        most(2, 1, locals(200) + "function b ( c ) local d end");
        most(200, 1, "local a function b ( ) " + locals(200) + "end local c");
        most(2, 0, "local a function b ( ) " + locals(200) + "end local c");
        CHECK.fault(16, 4 + 401, "function b ( ) " + locals(201) + "end");
        most(200, 0, locals(200) + "b = a");
    }

    // "A local's SLOT is how many locals of its function are there when it is declared."
    private static void theLastSlot() {
        ChunkCode chunk = Check.compiled(locals(199) + "local b = 1 return b");
        CHECK.same("DECLARE", 27, chunk.code(0, 399, 0));
        CHECK.same("in slot 199", 199, chunk.code(0, 399, 1));
        CHECK.same("LOCAL", 8, chunk.code(0, 400, 0));
        CHECK.same("from slot 199", 199, chunk.code(0, 400, 1));
        CHECK.same("no flaws", 0, chunk.flaws());
    }
}
