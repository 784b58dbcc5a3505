/**
 * Promise 4: "A label is at its BLOCK'S END when only labels and ; follow it in its block and that is not a
 * repeat's": a goto may lead over a local to it, and to no other label.
 */
public final class Promise4BlockEndTest {
    private static final Check CHECK = new Check();
    private static final String LEAP = "goto a local b :: a ::";

    public static void main(String[] args) {
        onlyLabelsAndSemicolons();
        anythingElse();
        ofEachBlock();
        ofARepeat();
        ofABlockAroundTheGoto();
        theCode();
        CHECK.end();
    }

    private static void onlyLabelsAndSemicolons() {
        for (String behind : new String[] {"", ";", "; ;", ":: c ::", ":: c :: :: d ::", "; :: c :: ; :: d :: ;"}) {
            CHECK.noFault(LEAP + " " + behind);
            CHECK.noFault("do " + LEAP + " " + behind + " end e ( )");
        }
        CHECK.noFault("goto a local b :: c :: :: a ::");
    }

    private static void anythingElse() {
        String[] behind = {"c ( )", "c = 1", "do end", "while c do end", "repeat until c", "if c then end", "goto a",
            "for i = 1 , 2 do end", "for i in c do end", "function c ( ) end", "local function c ( ) end", "local c",
            "return", "return ;", "return 1", "; c ( )", ":: d :: c ( )", "; ; return", ":: d :: ; local c",
            "c ( ) ; :: d ::"};
        for (String one : behind) {
            CHECK.fault(14, 0, LEAP + " " + one);
            CHECK.fault(14, 1, "do " + LEAP + " " + one + " end");
        }
        CHECK.fault(14, 3, "while c do " + LEAP + " break end");
    }

    private static void ofEachBlock() {
        CHECK.noFault(LEAP);
        CHECK.noFault("do " + LEAP + " end c ( )");
        CHECK.noFault("while c do " + LEAP + " end c ( )");
        CHECK.noFault("if c then " + LEAP + " end c ( )");
        CHECK.noFault("if c then " + LEAP + " elseif d then " + LEAP + " else " + LEAP + " end c ( )");
        CHECK.noFault("for i = 1 , 2 do " + LEAP + " end c ( )");
        CHECK.noFault("for i in c do " + LEAP + " end c ( )");
        CHECK.noFault("function c ( ) " + LEAP + " end c ( )");
        CHECK.noFault("local function c ( ) " + LEAP + " end c ( )");
        CHECK.noFault("return function ( ) " + LEAP + " end");
    }

    // The condition belongs to the block, so no label is at a repeat's end.
    private static void ofARepeat() {
        CHECK.fault(14, 1, "repeat " + LEAP + " until c");
        CHECK.fault(14, 1, "repeat " + LEAP + " ; :: d :: until c");
        CHECK.noFault("repeat do " + LEAP + " end until c");
        CHECK.noFault("repeat if c then " + LEAP + " end until c");
        CHECK.fault(14, 2, "repeat repeat goto a local b :: a :: until c until c");
        CHECK.fault(14, 2, "do repeat " + LEAP + " until c end");
        CHECK.noFault("repeat goto a :: a :: until c");
        CHECK.noFault("repeat local b goto a :: a :: until c");
    }

    private static void ofABlockAroundTheGoto() {
        CHECK.noFault("do goto a end local b :: a ::");
        CHECK.noFault("do goto a c ( ) end local b :: a ::");
        CHECK.noFault("while c do goto a end local b :: a :: ;");
        CHECK.noFault("repeat goto a until c local b :: a ::");
        CHECK.fault(14, 1, "do goto a end local b :: a :: c ( )");
        CHECK.fault(14, 2, "repeat do goto a end local b :: a :: until c");
    }

    // "LEAVE a = how many locals are there at its label (always; also those over whose declaration it leads)"
    private static void theCode() {
        CHECK.code(0, LEAP, "STEP; LEAVE 1; JUMP 5; NIL; DECLARE 0 1 2; RETURN 0 0 7");
        CHECK.code(0, "do " + LEAP + " end", "STEP 0 0 1; LEAVE 1; JUMP 5; NIL; DECLARE 0 1 3; LEAVE; RETURN 0 0 9");
        CHECK.code(0, "goto a local b :: c :: local d :: a ::",
            "STEP; LEAVE 2; JUMP 7; NIL; DECLARE 0 1 2; NIL; DECLARE 1 1 7; RETURN 0 0 12");
    }
}
