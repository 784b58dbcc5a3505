/** Promise 8: every "if .. are there", "(always)", "(not of the last part)" and "if there is one" of the table. */
public final class Promise8WhenTest {
    private static final Check CHECK = new Check();

    public static void main(String[] args) {
        addedRowOfArgs();
        addedRowOfATable();
        closingOnes();
        dropOfTargets();
        leaveAtABlocksEnd();
        notOfAFunctionsOwnBlock();
        repeatWithLocals();
        repeatWithoutLocals();
        jumpNotOfTheLastPart();
        thirdValueOfAFor();
        leaveOfAForAlways();
        returnOfARow();
        tailCall();
        noTailCall();
        leaveOfABreak();
        whereABreakLeads();
        leaveOfAGotoAlways();
        ends();
        CHECK.end();
    }

    // "b = 1 if there is an added row, and 2"; "the last of a list or of args, .. not in brackets"
    private static void addedRowOfArgs() {
        CHECK.code(0, "a = - f ( )", "GLOBAL 6 0 3; CALL 0 2 4; UNARY 41 0 2; SETGLOBAL 1; RETURN 0 0 6");
        CHECK.code(0, "a = - f ( ... )", "GLOBAL 6 0 3; DOTS; CALL 0 3 4; UNARY 41 0 2; SETGLOBAL 1; RETURN 0 0 7");
        CHECK.code(0, "a = - f ( ( ... ) )",
            "GLOBAL 6 0 3; DOTS 0 1; CALL 1 2 4; UNARY 41 0 2; SETGLOBAL 1; RETURN 0 0 9");
        CHECK.code(0, "f ( 1 , ... )", "GLOBAL 6; NUMBER 1; DOTS; CALL 1 1 1; RETURN 0 0 6");
        CHECK.code(0, "f ( ... , 1 )", "GLOBAL 6; DOTS 0 1; NUMBER 1; CALL 2 0 1; RETURN 0 0 6");
        CHECK.code(0, "f ( g ( ) )", "GLOBAL 6; GLOBAL 7 0 2; CALL 0 4 3; CALL 0 1 1; RETURN 0 0 6");
        CHECK.code(0, "f ( g ( ... ) )", "GLOBAL 6; GLOBAL 7 0 2; DOTS; CALL 0 5 3; CALL 0 1 1; RETURN 0 0 7");
        CHECK.code(0, "f ( ( g ( ) ) )", "GLOBAL 6; GLOBAL 7 0 3; CALL 0 2 4; CALL 1 0 1; RETURN 0 0 8");
        CHECK.code(0, "f ( not g ( ) )", "GLOBAL 6; GLOBAL 7 0 3; CALL 0 2 4; NOT 0 0 2; CALL 1 0 1; RETURN 0 0 7");
        CHECK.code(0, "f ( g ( ) . a )", "GLOBAL 6; GLOBAL 7 0 2; CALL 0 2 3; FIELD 1 0 5; CALL 1 0 1; RETURN 0 0 8");
        CHECK.code(0, "f ( a or g ( ) )",
            "GLOBAL 6; GLOBAL 1 0 2; OR 5; GLOBAL 7 0 4; CALL 0 2 5; CALL 1 0 1; RETURN 0 0 8");
        CHECK.code(0, "f { ... }", "GLOBAL 6; TABLE 0 0 1; DOTS; APPENDALL 1 0 2; CALL 1 0 1; RETURN 0 0 4");
        CHECK.code(0, "a : b ( g ( ) )", "GLOBAL 1; SELF 2 0 1; GLOBAL 7 0 4; CALL 0 4 5; CALL 1 1 3; RETURN 0 0 8");
        CHECK.code(0, "a : b ( )", "GLOBAL 1; SELF 2 0 1; CALL 1 0 3; RETURN 0 0 5");
        CHECK.code(0, "f ( ... ) ( )", "GLOBAL 6; DOTS; CALL 0 3 1; CALL 0 0 4; RETURN 0 0 6");
        CHECK.code(0, "f ( ... ) ( g ( ) )",
            "GLOBAL 6; DOTS; CALL 0 3 1; GLOBAL 7 0 5; CALL 0 4 6; CALL 0 1 4; RETURN 0 0 9");
    }

    // "the last one, if it is without = and a call or three dots: added, APPENDALL"
    private static void addedRowOfATable() {
        table("{ ... }", "DOTS; APPENDALL 1 0 3");
        table("{ ... , }", "DOTS; APPENDALL 1 0 3");
        table("{ ... ; }", "DOTS; APPENDALL 1 0 3");
        table("{ ( ... ) }", "DOTS 0 1; APPEND 1 0 3");
        table("{ ... , 1 }", "DOTS 0 1; APPEND 1 0 3; NUMBER 1; APPEND 2 0 5");
        table("{ 1 ; ... }", "NUMBER 1; APPEND 1 0 3; DOTS; APPENDALL 2 0 5");
        table("{ b = ... }", "DOTS 0 1; NAMED 2 0 3");
        table("{ ... , b = ... }", "DOTS 0 1; APPEND 1 0 3; DOTS 0 1; NAMED 2 0 5");
        table("{ b = 1 , ... }", "NUMBER 1; NAMED 2 0 3; DOTS; APPENDALL 1 0 7");
        table("{ [ 1 ] = f ( ) }", "NUMBER 1; GLOBAL 6 0 7; CALL 0 2 8; ITEM 0 0 3");
        table("{ f ( ) , f ( ) }", "GLOBAL 6 0 3; CALL 0 2 4; APPEND 1 0 3; GLOBAL 6 0 7; CALL 0 4 8; APPENDALL 2 0 7");
        table("{ # f ( ) }", "GLOBAL 6 0 4; CALL 0 2 5; UNARY 46 0 3; APPEND 1 0 3");
        table("{ f }", "GLOBAL 6 0 3; APPEND 1 0 3");
        table("{ }", "");
    }

    private static void table(String text, String due) {
        CHECK.code(0, "a = " + text, "TABLE 0 0 2; " + due + (due.isEmpty() ? "" : "; ") + "SETGLOBAL 1; RETURN 0 0 "
            + (2 + Check.length(text)));
    }

    // "then for a close one CLOSING s (w its name)"
    private static void closingOnes() {
        CHECK.code(0, "local a", "NIL; DECLARE 0 1; RETURN 0 0 2");
        CHECK.code(0, "local a < const >", "NIL; DECLARE 0 1; RETURN 0 0 5");
        CHECK.code(0, "local a < close >", "NIL; DECLARE 0 1; CLOSING 0 0 1; RETURN 0 0 5");
        CHECK.code(0, "local a , b < close > , c",
            "NIL; NIL; NIL; DECLARE 0 3; CLOSING 1 0 3; RETURN 0 0 9");
        CHECK.code(0, "local a local b , c < close >",
            "NIL; DECLARE 0 1; NIL; NIL; DECLARE 1 2 2; CLOSING 2 0 5; RETURN 0 0 9");
    }

    // "at last, if there are k such ones: DROP a = 2 k"
    private static void dropOfTargets() {
        CHECK.code(0, "a , b = 1 , 2", "NUMBER 1; NUMBER 2; SETGLOBAL 2 0 2; SETGLOBAL 1; RETURN 0 0 7");
        CHECK.code(0, "a , b . c = 1 , 2",
            "GLOBAL 2 0 2; TEXT 3; NUMBER 1; NUMBER 2; PUT 1 0 3; SETGLOBAL 1; DROP 2; RETURN 0 0 9");
        CHECK.code(0, "b . c , a = 1 , 2",
            "GLOBAL 2; TEXT 3; NUMBER 1; NUMBER 2; SETGLOBAL 1 0 4; PUT 0 0 1; DROP 2; RETURN 0 0 9");
        CHECK.code(0, "a . b , c . d = 1 , 2",
            "GLOBAL 1; TEXT 2; GLOBAL 3 0 4; TEXT 4; NUMBER 1; NUMBER 2; PUT 1 0 5; PUT 2 0 1; DROP 4; RETURN 0 0 11");
        CHECK.code(0, "a [ 1 ] , b [ 2 ] , c [ 3 ] = ...",
            "GLOBAL 1; NUMBER 1; GLOBAL 2 0 5; NUMBER 2; GLOBAL 3 0 10; NUMBER 3; DOTS; FIT 3; PUT 2 0 11; PUT 3 0 6; "
            + "PUT 4 0 1; DROP 6; RETURN 0 0 16");
        CHECK.code(1, "a . b , c . d = 1 , function ( ) e . f = 1 end",
            "GLOBAL 5 0 13; TEXT 6; NUMBER 1; PUT 0 0 14; DROP 2; RETURN 0 0 18");
        CHECK.code(0, "function a ( ) end", "CLOSURE 1; SETGLOBAL 1 0 1; RETURN 0 0 5");
        CHECK.code(0, "function a : b ( ) end", "GLOBAL 1 0 1; TEXT 2; CLOSURE 1; PUT 0 0 2; DROP 2; RETURN 0 0 7");
    }

    // "A BLOCK's end: if locals of it are there: LEAVE a = how many locals of the function were there before it"
    private static void leaveAtABlocksEnd() {
        CHECK.code(0, "do end", "RETURN 0 0 2");
        CHECK.code(0, "do do local a end end", "NIL; DECLARE 0 1 2; LEAVE; RETURN 0 0 6");
        CHECK.code(0, "do local a end", "NIL; DECLARE 0 1 1; LEAVE; RETURN 0 0 4");
        CHECK.code(0, "local a do end", "NIL; DECLARE 0 1; RETURN 0 0 4");
        CHECK.code(0, "local a do local b end", "NIL; DECLARE 0 1; NIL; DECLARE 1 1 3; LEAVE 1; RETURN 0 0 6");
        CHECK.code(0, "do local a , b do local c end end",
            "NIL; NIL; DECLARE 0 2 1; NIL; DECLARE 2 1 6; LEAVE 2; LEAVE; RETURN 0 0 10");
        CHECK.code(0, "do local function a ( ) end end",
            "NIL; DECLARE 0 1 1; CLOSURE 1 0 2; SETLOCAL 0 0 3; LEAVE; RETURN 0 0 8");
        CHECK.code(0, "while a do end", "STEP; GLOBAL 1 0 1; JUMPNO 4; JUMP; RETURN 0 0 4");
        CHECK.code(0, "while a do local b end",
            "STEP; GLOBAL 1 0 1; JUMPNO 7; NIL; DECLARE 0 1 3; LEAVE; JUMP; RETURN 0 0 6");
        CHECK.code(0, "if a then local b elseif c then local d else local e end",
            "GLOBAL 1 0 1; JUMPNO 6; NIL; DECLARE 0 1 3; LEAVE; JUMP 15; GLOBAL 3 0 6; JUMPNO 12; NIL; DECLARE 0 1 8; "
            + "LEAVE; JUMP 15; NIL; DECLARE 0 1 11; LEAVE; RETURN 0 0 14");
        // The end is there behind return, break and goto, too.
        CHECK.code(0, "do local a return a end", "NIL; DECLARE 0 1 1; LOCAL 0 0 4; RETURN 1 0 3; LEAVE; RETURN 0 0 6");
        CHECK.code(0, ":: b :: do local a goto b end",
            "NIL; DECLARE 0 1 4; STEP 0 0 6; LEAVE; JUMP; LEAVE; RETURN 0 0 9");
    }

    // "(Not of a function's own block.)"
    private static void notOfAFunctionsOwnBlock() {
        CHECK.code(0, "local a", "NIL; DECLARE 0 1; RETURN 0 0 2");
        CHECK.code(1, "function a ( ) local b end", "NIL; DECLARE 0 1 4; RETURN 0 0 6");
        CHECK.code(1, "function a ( b ) end", "RETURN 0 0 5");
        CHECK.code(1, "function a : b ( c ) local d end", "NIL; DECLARE 2 1 7; RETURN 0 0 9");
        CHECK.code(1, "local z function a ( b ) do local c end end",
            "NIL; DECLARE 1 1 8; LEAVE 1; RETURN 0 0 11");
    }

    // "if locals of the block are there: JUMPYES L2, LEAVE, JUMP L1; L2: LEAVE"
    private static void repeatWithLocals() {
        CHECK.code(0, "repeat local a until b",
            "STEP; NIL; DECLARE 0 1 1; GLOBAL 2 0 4; JUMPYES 7; LEAVE; JUMP; LEAVE; RETURN 0 0 5");
        CHECK.code(0, "local z repeat local a , b until a",
            "NIL; DECLARE 0 1; STEP 0 0 2; NIL; NIL; DECLARE 1 2 3; LOCAL 1 0 8; JUMPYES 10; LEAVE 1; JUMP 2; LEAVE 1; "
            + "RETURN 0 0 9");
        CHECK.code(0, "repeat local a return until a",
            "STEP; NIL; DECLARE 0 1 1; RETURN 0 0 3; LOCAL 0 0 5; JUMPYES 8; LEAVE; JUMP; LEAVE; RETURN 0 0 6");
    }

    // "otherwise JUMPNO L1"
    private static void repeatWithoutLocals() {
        CHECK.code(0, "repeat until b", "STEP; GLOBAL 2 0 2; JUMPNO; RETURN 0 0 3");
        CHECK.code(0, "local a repeat until a", "NIL; DECLARE 0 1; STEP 0 0 2; LOCAL 0 0 4; JUMPNO 2; RETURN 0 0 5");
        CHECK.code(0, "repeat do local a end until a",
            "STEP; NIL; DECLARE 0 1 2; LEAVE; GLOBAL 1 0 6; JUMPNO; RETURN 0 0 7");
        CHECK.code(0, "repeat until function ( a ) local b end", "STEP; CLOSURE 1 0 2; JUMPNO; RETURN 0 0 9");
    }

    // "block, JUMP behind all (not of the last part)"
    private static void jumpNotOfTheLastPart() {
        CHECK.code(0, "if a then end", "GLOBAL 1 0 1; JUMPNO 2; RETURN 0 0 4");
        CHECK.code(0, "if a then else end", "GLOBAL 1 0 1; JUMPNO 3; JUMP 3; RETURN 0 0 5");
        CHECK.code(0, "if a then elseif b then end",
            "GLOBAL 1 0 1; JUMPNO 3; JUMP 5; GLOBAL 2 0 4; JUMPNO 5; RETURN 0 0 7");
        CHECK.code(0, "if a then elseif b then else end",
            "GLOBAL 1 0 1; JUMPNO 3; JUMP 6; GLOBAL 2 0 4; JUMPNO 6; JUMP 6; RETURN 0 0 8");
        CHECK.code(0, "if a then b ( ) else c ( ) end d ( )",
            "GLOBAL 1 0 1; JUMPNO 5; GLOBAL 2 0 3; CALL 0 0 4; JUMP 7; GLOBAL 3 0 7; CALL 0 0 8; GLOBAL 4 0 11; "
            + "CALL 0 0 12; RETURN 0 0 14");
        CHECK.code(0, "if a then return else return end",
            "GLOBAL 1 0 1; JUMPNO 4; RETURN 0 0 3; JUMP 5; RETURN 0 0 5; RETURN 0 0 7");
        CHECK.code(0, "if a then if b then else end else end",
            "GLOBAL 1 0 1; JUMPNO 6; GLOBAL 2 0 4; JUMPNO 5; JUMP 5; JUMP 6; RETURN 0 0 10");
    }

    // "three values (NUMBER with t = -4 if the third one lacks)"
    private static void thirdValueOfAFor() {
        CHECK.code(0, "for i = 1 , 2 do end", "NUMBER 1; NUMBER 2; NUMBER -4; FORBEGIN 0 8; STEP; ROUND; LEAVE 3; "
            + "FORNEXT 0 4; FOREND; RETURN 0 0 8");
        CHECK.code(0, "for i = 1 , 2 , 3 do end", "NUMBER 1; NUMBER 2; NUMBER 3; FORBEGIN 0 8; STEP; ROUND; LEAVE 3; "
            + "FORNEXT 0 4; FOREND; RETURN 0 0 10");
        CHECK.code(0, "for i = ... , f ( ) , ... do end", "DOTS 0 1; GLOBAL 6 0 5; CALL 0 2 6; DOTS 0 1; FORBEGIN 0 9; "
            + "STEP; ROUND; LEAVE 3; FORNEXT 0 5; FOREND; RETURN 0 0 12");
    }

    // "its LEAVE a = s + 3 (always)"; "LEAVE a = s + 4 (always)"
    private static void leaveOfAForAlways() {
        CHECK.code(0, "local a for i = 1 , 2 do local b end", "NIL; DECLARE 0 1; NUMBER 1; NUMBER 2; NUMBER -4; "
            + "FORBEGIN 1 12 2; STEP 0 0 2; ROUND 1; NIL; DECLARE 5 1 9; LEAVE 4; FORNEXT 1 6; FOREND 1; RETURN 0 0 12");
        CHECK.code(0, "for i = 1 , 2 do return end", "NUMBER 1; NUMBER 2; NUMBER -4; FORBEGIN 0 9; STEP; ROUND; "
            + "RETURN 0 0 7; LEAVE 3; FORNEXT 0 4; FOREND; RETURN 0 0 9");
        CHECK.code(0, "for i in ... do end", "DOTS; FIT 4; EACHBEGIN; STEP; EACH 0 1 2; EACHDONE 0 8; LEAVE 4; JUMP 3; "
            + "LEAVE 4; FOREND; RETURN 0 0 6");
        CHECK.code(0, "local a for i , j in ... do local b end", "NIL; DECLARE 0 1; DOTS; FIT 4; EACHBEGIN 1 0 2; "
            + "STEP 0 0 2; EACH 1 2 6; EACHDONE 1 12; NIL; DECLARE 7 1 9; LEAVE 5; JUMP 5; LEAVE 5; FOREND 1; "
            + "RETURN 0 0 12");
    }

    // "RETURN a = how many values before an added row, b = 1 if there is one"
    private static void returnOfARow() {
        CHECK.code(0, "return", "RETURN; RETURN 0 0 1");
        CHECK.code(0, "; return ;", "RETURN 0 0 1; RETURN 0 0 3");
        CHECK.code(0, "a = ... return", "DOTS; FIT 1; SETGLOBAL 1; RETURN 0 0 3; RETURN 0 0 4");
        CHECK.code(0, "f ( ... ) return", "GLOBAL 6; DOTS; CALL 0 1 1; RETURN 0 0 4; RETURN 0 0 5");
        CHECK.code(0, "return 1", "NUMBER 1; RETURN 1; RETURN 0 0 2");
        CHECK.code(0, "return ...", "DOTS; RETURN 0 1; RETURN 0 0 2");
        CHECK.code(0, "return ( ... )", "DOTS 0 1; RETURN 1; RETURN 0 0 4");
        CHECK.code(0, "return 1 , ...", "NUMBER 1; DOTS; RETURN 1 1; RETURN 0 0 4");
        CHECK.code(0, "return ... , ...", "DOTS 0 1; DOTS; RETURN 1 1; RETURN 0 0 4");
        CHECK.code(0, "return f ( ) , f ( )", "GLOBAL 6 0 1; CALL 0 2 2; GLOBAL 6 0 5; CALL 0 4 6; RETURN 1 1; RETURN 0 0 8");
        CHECK.code(0, "return f ( ) , ( f ( ) )",
            "GLOBAL 6 0 1; CALL 0 2 2; GLOBAL 6 0 6; CALL 0 2 7; RETURN 2; RETURN 0 0 10");
    }

    // "return of a single call without brackets .. : CALL is TAIL with b 1 or 0 in its place, and no RETURN follows"
    private static void tailCall() {
        CHECK.code(0, "return f ( )", "GLOBAL 6 0 1; TAIL 0 0 2; RETURN 0 0 4");
        CHECK.code(0, "return f ( ... )", "GLOBAL 6 0 1; DOTS; TAIL 0 1 2; RETURN 0 0 5");
        CHECK.code(0, "return f ( 1 , g ( ) ) ;",
            "GLOBAL 6 0 1; NUMBER 1; GLOBAL 7 0 5; CALL 0 4 6; TAIL 1 1 2; RETURN 0 0 10");
        CHECK.code(0, "return f { }", "GLOBAL 6 0 1; TABLE 0 0 2; TAIL 1 0 2; RETURN 0 0 4");
        CHECK.code(0, "return f \"s\"", "GLOBAL 6 0 1; TEXT 119; TAIL 1 0 2; RETURN 0 0 3");
        CHECK.code(0, "return ( f ) ( )", "GLOBAL 6 0 2; TAIL 0 0 4; RETURN 0 0 6");
        CHECK.code(0, "return a : b ( 1 )", "GLOBAL 1 0 1; SELF 2 0 2; NUMBER 1; TAIL 2 0 4; RETURN 0 0 7");
        CHECK.code(0, "return f ( ) ( )", "GLOBAL 6 0 1; CALL 0 2 2; TAIL 0 0 4; RETURN 0 0 6");
        CHECK.code(0, "do return f ( ) end", "GLOBAL 6 0 2; TAIL 0 0 3; RETURN 0 0 6");
        CHECK.code(0, "local a < const > return f ( )", "NIL; DECLARE 0 1; GLOBAL 6 0 6; TAIL 0 0 7; RETURN 0 0 9");
        CHECK.code(0, "do local a < close > end return f ( )",
            "NIL; DECLARE 0 1 1; CLOSING 0 0 2; LEAVE; GLOBAL 6 0 8; TAIL 0 0 9; RETURN 0 0 11");
        CHECK.code(0, "for i in a do end return f ( )", "GLOBAL 1 0 3; NIL; NIL; NIL; EACHBEGIN; STEP; EACH 0 1 2; "
            + "EACHDONE 0 10; LEAVE 4; JUMP 5; LEAVE 4; FOREND; GLOBAL 6 0 7; TAIL 0 0 8; RETURN 0 0 10");
        CHECK.code(1, "local a < close > = function ( ) return f ( ) end", "GLOBAL 6 0 10; TAIL 0 0 11; RETURN 0 0 13");
        CHECK.code(1, "local a < close > function b ( ) return f ( ) end", "GLOBAL 6 0 10; TAIL 0 0 11; RETURN 0 0 13");
        CHECK.code(1, "for i in function ( ) return f ( ) end do end", "GLOBAL 6 0 7; TAIL 0 0 8; RETURN 0 0 10");
    }

    // "if no close local of the function is there, in any block of it (nor a for with a list around it)"
    private static void noTailCall() {
        CHECK.code(0, "return ( f ( ) )", "GLOBAL 6 0 2; CALL 0 2 3; RETURN 1; RETURN 0 0 6");
        CHECK.code(0, "return f ( ) . a", "GLOBAL 6 0 1; CALL 0 2 2; FIELD 1 0 4; RETURN 1; RETURN 0 0 6");
        CHECK.code(0, "return 1 , f ( )", "NUMBER 1; GLOBAL 6 0 3; CALL 0 4 4; RETURN 1 1; RETURN 0 0 6");
        CHECK.code(0, "return not f ( )", "GLOBAL 6 0 2; CALL 0 2 3; NOT 0 0 1; RETURN 1; RETURN 0 0 5");
        CHECK.code(0, "return a and f ( )", "GLOBAL 1 0 1; AND 4; GLOBAL 6 0 3; CALL 0 2 4; RETURN 1; RETURN 0 0 6");
        CHECK.code(0, "local a < close > return f ( )",
            "NIL; DECLARE 0 1; CLOSING 0 0 1; GLOBAL 6 0 6; CALL 0 4 7; RETURN 0 1 5; RETURN 0 0 9");
        CHECK.code(0, "local a < close > return f ( ... )",
            "NIL; DECLARE 0 1; CLOSING 0 0 1; GLOBAL 6 0 6; DOTS; CALL 0 5 7; RETURN 0 1 5; RETURN 0 0 10");
        CHECK.code(0, "local a < close > local b do local c return f ( ) end",
            "NIL; DECLARE 0 1; CLOSING 0 0 1; NIL; DECLARE 1 1 5; NIL; DECLARE 2 1 8; GLOBAL 6 0 11; CALL 0 4 12; "
            + "RETURN 0 1 10; LEAVE 2; RETURN 0 0 15");
        CHECK.code(1, "function a ( ) local b < close > return f ( ) end",
            "NIL; DECLARE 0 1 4; CLOSING 0 0 5; GLOBAL 6 0 10; CALL 0 4 11; RETURN 0 1 9; RETURN 0 0 13");
        CHECK.code(0, "for i in a do if b then return f ( ) end end",
            "GLOBAL 1 0 3; NIL; NIL; NIL; EACHBEGIN; STEP; EACH 0 1 2; EACHDONE 0 15; GLOBAL 2 0 6; JUMPNO 13; "
            + "GLOBAL 6 0 9; CALL 0 4 10; RETURN 0 1 8; LEAVE 4; JUMP 5; LEAVE 4; FOREND; RETURN 0 0 14");
    }

    // "LEAVE a = how many locals there were before the innermost loop's block (..), if there are more"
    private static void leaveOfABreak() {
        CHECK.code(0, "local a while b do break end",
            "NIL; DECLARE 0 1; STEP 0 0 2; GLOBAL 2 0 3; JUMPNO 7; JUMP 7; JUMP 2; RETURN 0 0 7");
        CHECK.code(0, "while b do local a break end",
            "STEP; GLOBAL 2 0 1; JUMPNO 9; NIL; DECLARE 0 1 3; LEAVE; JUMP 9; LEAVE; JUMP; RETURN 0 0 7");
        CHECK.code(0, "while b do do local a end break end",
            "STEP; GLOBAL 2 0 1; JUMPNO 8; NIL; DECLARE 0 1 4; LEAVE; JUMP 8; JUMP; RETURN 0 0 9");
        CHECK.code(0, "while b do if c then local a break end end",
            "STEP; GLOBAL 2 0 1; JUMPNO 11; GLOBAL 3 0 4; JUMPNO 10; NIL; DECLARE 0 1 6; LEAVE; JUMP 11; LEAVE; JUMP; "
            + "RETURN 0 0 11");
        CHECK.code(0, "repeat break until a", "STEP; JUMP 4; GLOBAL 1 0 3; JUMPNO; RETURN 0 0 4");
        CHECK.code(0, "repeat break local a until a",
            "STEP; JUMP 9; NIL; DECLARE 0 1 2; LOCAL 0 0 5; JUMPYES 8; LEAVE; JUMP; LEAVE; RETURN 0 0 6");
        CHECK.code(0, "while a do local b while c do break end end",
            "STEP; GLOBAL 1 0 1; JUMPNO 12; NIL; DECLARE 0 1 3; STEP 0 0 5; GLOBAL 3 0 6; JUMPNO 10; JUMP 10; JUMP 5; "
            + "LEAVE; JUMP; RETURN 0 0 11");
    }

    private static void whereABreakLeads() {
        // "L2 of while"
        CHECK.code(0, "while a do break end b ( )",
            "STEP; GLOBAL 1 0 1; JUMPNO 5; JUMP 5; JUMP; GLOBAL 2 0 5; CALL 0 0 6; RETURN 0 0 8");
        // "behind a repeat (behind the LEAVE at its L2, too)"
        CHECK.code(0, "repeat local a break until a b ( )",
            "STEP; NIL; DECLARE 0 1 1; LEAVE; JUMP 10; LOCAL 0 0 5; JUMPYES 9; LEAVE; JUMP; LEAVE; GLOBAL 2 0 6; "
            + "CALL 0 0 7; RETURN 0 0 9");
        // "L2 of for with numbers"
        CHECK.code(0, "for i = 1 , 2 do break end", "NUMBER 1; NUMBER 2; NUMBER -4; FORBEGIN 0 10; STEP; ROUND; LEAVE 3; "
            + "JUMP 10; LEAVE 3; FORNEXT 0 4; FOREND; RETURN 0 0 9");
        // "in a for with a list the FOREND"
        CHECK.code(0, "for i in ... do break end", "DOTS; FIT 4; EACHBEGIN; STEP; EACH 0 1 2; EACHDONE 0 10; LEAVE 4; "
            + "JUMP 11; LEAVE 4; JUMP 3; LEAVE 4; FOREND; RETURN 0 0 7");
        CHECK.code(0, "while a do break break end",
            "STEP; GLOBAL 1 0 1; JUMPNO 6; JUMP 6; JUMP 6; JUMP; RETURN 0 0 6");
        // Of the innermost loop, wherever the break stands in it.
        CHECK.code(0, "while a do break while b do break end break end",
            "STEP; GLOBAL 1 0 1; JUMPNO 11; JUMP 11; STEP 0 0 4; GLOBAL 2 0 5; JUMPNO 9; JUMP 9; JUMP 4; JUMP 11; JUMP; "
            + "RETURN 0 0 11");
        CHECK.code(0, "while a do break repeat until b end",
            "STEP; GLOBAL 1 0 1; JUMPNO 8; JUMP 8; STEP 0 0 4; GLOBAL 2 0 6; JUMPNO 4; JUMP; RETURN 0 0 8");
    }

    // "LEAVE a = how many locals are there at its label (always; ..)"
    private static void leaveOfAGotoAlways() {
        CHECK.code(0, ":: a :: goto a", "STEP 0 0 3; LEAVE; JUMP; RETURN 0 0 5");
        CHECK.code(0, "local b :: a :: goto a", "NIL; DECLARE 0 1; STEP 0 0 5; LEAVE 1; JUMP 2; RETURN 0 0 7");
        CHECK.code(0, "local b goto a :: a :: b ( )",
            "NIL; DECLARE 0 1; STEP 0 0 2; LEAVE 1; JUMP 5; LOCAL 0 0 7; CALL 0 0 8; RETURN 0 0 10");
        CHECK.code(0, "local b :: a :: local c do local d goto a end",
            "NIL; DECLARE 0 1; NIL; DECLARE 1 1 5; NIL; DECLARE 2 1 8; STEP 0 0 10; LEAVE 1; JUMP 2; LEAVE 2; "
            + "RETURN 0 0 13");
        CHECK.code(0, "goto a local b , c :: a ::", "STEP; LEAVE 2; JUMP 6; NIL; NIL; DECLARE 0 2 2; RETURN 0 0 9");
        CHECK.code(0, "do goto a end local b :: a ::",
            "STEP 0 0 1; LEAVE 1; JUMP 5; NIL; DECLARE 0 1 4; RETURN 0 0 9");
        CHECK.code(1, "local b function c ( d ) goto a :: a :: d ( ) end",
            "STEP 0 0 7; LEAVE 1; JUMP 3; LOCAL 0 0 12; CALL 0 0 13; RETURN 0 0 15");
        // Of two gotos in a block one leads to its label there, the other one to a block around.
        CHECK.code(0, "do goto a goto b :: a :: end c ( ) :: b :: d ( )",
            "STEP 0 0 1; LEAVE; JUMP 6; STEP 0 0 3; LEAVE; JUMP 8; GLOBAL 3 0 9; CALL 0 0 10; GLOBAL 4 0 15; CALL 0 0 16; "
            + "RETURN 0 0 18");
        CHECK.code(0, "do goto b goto a :: a :: end c ( ) :: b :: d ( )",
            "STEP 0 0 1; LEAVE; JUMP 8; STEP 0 0 3; LEAVE; JUMP 6; GLOBAL 3 0 9; CALL 0 0 10; GLOBAL 4 0 15; CALL 0 0 16; "
            + "RETURN 0 0 18");
        // The innermost block's label, where two can be seen: the other one stands behind.
        CHECK.code(0, "do goto a :: a :: b ( ) end c ( ) :: a ::",
            "STEP 0 0 1; LEAVE; JUMP 3; GLOBAL 2 0 6; CALL 0 0 7; GLOBAL 3 0 10; CALL 0 0 11; RETURN 0 0 16");
    }

    // "A body's and the chunk's end: RETURN (w end; for the chunk how many words there are)"
    private static void ends() {
        CHECK.code(0, "", "RETURN");
        CHECK.code(0, ";", "RETURN 0 0 1");
        CHECK.code(0, "return ;", "RETURN; RETURN 0 0 2");
        CHECK.code(1, "function a ( ) return end ; ;", "RETURN 0 0 4; RETURN 0 0 5");
        CHECK.code(2, "function a ( ) b = function ( ) end end", "RETURN 0 0 9");
        CHECK.code(1, "function a ( ) b = function ( ) end end", "CLOSURE 2 0 6; SETGLOBAL 2 0 4; RETURN 0 0 10");
    }
}
