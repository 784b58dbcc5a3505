/** Promise 4: of two faults in one text 7 and 8 come first, and else "the first of these by their words' places". */
public final class Promise4TwoFaultsTest {
    private static final Check CHECK = new Check();
    // Texts with one fault each, that fault's kind, and its word: none of them means a name of another.
    private static final String[] TEXTS = {
        "local j < k > = 1",
        "local l < const > = 1 l = 2",
        "break",
        "goto m",
        "do :: n :: :: n :: end",
        "do goto o local p :: o :: q ( ) end",
        "r = function ( ) return ... end",
        "do local " + Check.times(200, "s ,") + "s end",
        "t = function ( ) local " + Check.times(197, "u ,") + "u for v in w do end end"};
    private static final int[] KINDS = {9, 10, 11, 12, 13, 14, 15, 16, 16};
    private static final int[] PLACES = {3, 7, 0, 0, 5, 1, 6, 2 + 2 * 200, 6 + 2 * 197 + 1};

    public static void main(String[] args) {
        oneFault();
        eachTwo();
        theGrammarFirst();
        foundLaterButStandsBefore();
        sameKindTwice();
        CHECK.end();
    }

    private static void oneFault() {
        for (int i = 0; i < TEXTS.length; i++) {
            CHECK.fault(KINDS[i], PLACES[i], TEXTS[i]);
        }
    }

    private static void eachTwo() {
        for (int i = 0; i < TEXTS.length; i++) {
            for (int j = 0; j < TEXTS.length; j++) {
                String both = TEXTS[i] + " " + TEXTS[j];
                // An object has 512 calls.
                if (Check.length(both) <= 500) {
                    CHECK.fault(KINDS[i], PLACES[i], both);
                    CHECK.fault(KINDS[i], 2 + PLACES[i], "; ; " + both);
                }
            }
        }
    }

    // "If there is none" of 7 and 8: they count wherever they are.
    private static void theGrammarFirst() {
        for (String text : TEXTS) {
            int length = Check.length(text);
            CHECK.fault(7, length, text + " )");
            CHECK.fault(7, length + 1, text + " a");
            CHECK.fault(7, length + 2, text + " a =");
            CHECK.fault(8, length + 48, text + " " + Check.times(49, "do") + Check.times(49, "end"));
            CHECK.fault(7, 0, ") " + text);
            CHECK.fault(8, 48, Check.times(49, "do") + text + " " + Check.times(49, "end"));
        }
        CHECK.fault(7, 1, "; ) )");
        CHECK.fault(7, 1, "a b c");
    }

    // Whether a goto has its label, and whether a for has room, is known only behind other words.
    private static void foundLaterButStandsBefore() {
        CHECK.fault(12, 0, "goto a break");
        CHECK.fault(12, 0, "goto a local b < c >");
        CHECK.fault(12, 1, "do goto a end break");
        CHECK.fault(12, 0, "goto a function b ( ) return ... end");
        CHECK.fault(12, 4, "function b ( ) goto a end break");
        CHECK.fault(12, 0, "goto a function b ( ) goto a end");
        CHECK.fault(14, 0, "goto a local b < c > :: a :: d ( )");
        CHECK.fault(14, 0, "goto a local b break :: a :: d ( )");
        CHECK.fault(14, 0, "goto a local b :: a :: :: a :: d ( )");
        CHECK.fault(14, 0, "goto a goto e local b :: a :: d ( )");
        CHECK.fault(12, 0, "goto e goto a local b :: a :: d ( )");
        CHECK.fault(12, 2, "do ; goto e goto a local b :: a :: d ( ) end");
        CHECK.fault(13, 4, ":: a :: :: a :: goto b");
        CHECK.fault(16, 4 + 396, "function b ( ) " + Check.times(198, "local a") + "for i in ... do end end");
        CHECK.fault(16, 4 + 396, "function b ( ) " + Check.times(198, "local a") + "for i = 1 , ... do end end");
        CHECK.fault(16, 4 + 394 + 1, "function b ( ) " + Check.times(197, "local a") + "for i = ... , 2 do end end");
        CHECK.fault(15, 4 + 392 + 3, "function b ( ) " + Check.times(196, "local a") + "for i = ... , 2 do local c end end");
    }

    private static void sameKindTwice() {
        CHECK.fault(9, 3, "local a < b > , c < d >");
        CHECK.fault(11, 1, "; break break");
        CHECK.fault(12, 1, "; goto a goto b");
        CHECK.fault(12, 1, "do goto a end goto b");
        CHECK.fault(13, 4, ":: a :: :: a :: :: a ::");
        CHECK.fault(14, 1, "; goto a goto a local b :: a :: c ( )");
        CHECK.fault(14, 1, "do goto a end goto a local b :: a :: c ( )");
    }
}
