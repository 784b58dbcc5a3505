import java.util.ArrayList;
import java.util.HashMap;
import java.util.HashSet;
import java.util.List;
import java.util.Map;
import java.util.Set;

/**
 * Promises 3 and 4, "the first word with which no chunk goes on, or behind the last word, where the chunk
 * should go on", and the 49th level: the document's grammar, written out as a table and tried by a general
 * recognizer, must refuse the same word as the class does, for many rows of words.
 */
public final class Promise3GrammarTest {
    private static final String[][] GRAMMAR = {
        {"chunk", "block"},
        {"block", "statements", "statements ending"},
        {"statements", "", "statements statement"},
        {"ending", "return", "return ;", "return list", "return list ;"},
        {"list", "exp", "list , exp"},
        {"statement", ";", "targets = list", "call", ":: NAME ::", "break", "goto NAME", "do block end",
            "while exp do block end", "repeat block until exp", "if exp then block elseifs end",
            "if exp then block elseifs else block end", "for NAME = exp , exp do block end",
            "for NAME = exp , exp , exp do block end", "for several in list do block end",
            "function path body", "function path : NAME body", "local function NAME body", "local declared",
            "local declared = list"},
        {"elseifs", "", "elseifs elseif exp then block"},
        {"targets", "target", "targets , target"},
        {"target", "NAME", "prefix [ exp ]", "prefix . NAME"},
        {"prefix", "NAME", "prefix [ exp ]", "prefix . NAME", "call", "( exp )"},
        {"call", "prefix args", "prefix : NAME args"},
        {"args", "( )", "( list )", "table", "TEXT"},
        {"exp", "nil", "false", "true", "NUMERAL", "TEXT", "...", "prefix", "table", "function body",
            "exp binary exp", "unary exp"},
        {"body", "( ) block end", "( names ) block end"},
        {"names", "several", "several , ...", "..."},
        {"several", "NAME", "several , NAME"},
        {"path", "NAME", "path . NAME"},
        {"declared", "one", "declared , one"},
        {"one", "NAME", "NAME < NAME >"},
        {"table", "{ }", "{ fields }", "{ fields separator }"},
        {"fields", "field", "fields separator field"},
        {"separator", ",", ";"},
        {"field", "NAME = exp", "exp", "[ exp ] = exp"},
        {"binary", "or", "and", "<", ">", "<=", ">=", "~=", "==", "|", "~", "&", "<<", ">>", "..", "+", "-", "*",
            "/", "//", "%", "^"},
        {"unary", "not", "#", "-", "~"}};
    private static final String OPENERS = " ( [ { do then else repeat function ";
    private static final String CLOSERS = " ) ] } end until elseif else ";
    private static final String[] WORDS = ("NAME NUMERAL TEXT and break do else elseif end false for function goto if "
        + "in local nil not or repeat return then true until while + - * / % ^ # & ~ | << >> // == ~= <= >= < > = ( ) "
        + "{ } [ ] :: ; : , . .. ...").split(" ");

    private final Check check = new Check();
    private final List<String> heads = new ArrayList<>();
    private final List<String[]> rules = new ArrayList<>();
    private final Map<String, List<Integer>> rulesOf = new HashMap<>();
    private long seed = 20261116;

    public static void main(String[] args) {
        Promise3GrammarTest test = new Promise3GrammarTest();
        test.writeRules();
        test.everyWordBehindEveryBeginning();
        test.manyRows();
        test.deepRows();
        test.check.end();
    }

    private void writeRules() {
        for (String[] row : GRAMMAR) {
            rulesOf.put(row[0], new ArrayList<>());
            for (int i = 1; i < row.length; i++) {
                rulesOf.get(row[0]).add(rules.size());
                heads.add(row[0]);
                rules.add(row[i].isEmpty() ? new String[0] : row[i].split(" "));
            }
        }
    }

    /** One text for every form of the grammar, cut behind each of its words, and then each word there is. */
    private void everyWordBehindEveryBeginning() {
        String[] texts = {
            "; a = b break", "a , b . c , d [ e ] = 1 , 2", "f ( ) . a [ 1 ] = f", "( a ) . b = ( c )", ":: a :: goto b",
            "do ; end", "while a do end", "repeat until a", "if a then elseif b then else end",
            "for a = 1 , 2 , 3 do end", "for a , b in c , d do end", "function a . b : c ( ) end",
            "function a ( b , c , ... ) end", "local function a ( ... ) end", "local a < b > , c = 1 , 2",
            "return a , b ;", "f ( a , b ) { } \"s\" ( )", "a : b ( ) : c { } : d \"s\"",
            "a = { 1 , a = 2 ; [ b ] = 3 , }", "a = nil , false , true , ... , function ( ) end",
            "a = - b ^ - c .. not # ~ d and e", "a = \"s\" .. { } == ( b )"};
        for (String text : texts) {
            String[] words = text.replaceAll("\\b[a-f]\\b", "NAME").replaceAll("\\b[0-9]\\b", "NUMERAL")
                .replace("\"s\"", "TEXT").replace("\"NAME\"", "TEXT").split(" ");
            for (int cut = 0; cut <= words.length; cut++) {
                List<String> beginning = new ArrayList<>(List.of(words).subList(0, cut));
                compare(beginning);
                for (String word : WORDS) {
                    List<String> longer = new ArrayList<>(beginning);
                    longer.add(word);
                    compare(longer);
                }
            }
        }
    }

    private void manyRows() {
        for (int n = 0; n < 8000; n++) {
            List<String> row = new ArrayList<>();
            for (int more = random(5); more >= 0; more--) {
                derive("statement", 2 + random(6), row);
            }
            for (int change = random(4); change > 1; change--) {
                spoil(row, 0);
            }
            if (row.size() < 100) {
                compare(row);
            }
        }
    }

    /** Rows with some 48 levels, closed again, with and without a wrong word. */
    private void deepRows() {
        String[][] ways = {{"do", "end"}, {"while NAME do", "end"}, {"repeat", "until NAME"}, {"if NAME then", "end"},
            {"if NAME then else", "end"}, {"NAME = function ( )", "end"}, {"if NAME then elseif NAME then", "else end"},
            {"for NAME in NAME do", "; end"}, {"return function ( ... )", "end"}, {"NAME : NAME ( function ( )", "end )"},
            {"if NAME then else end do", "end"}, {"repeat until ( NAME ) do", "end"}};
        String[][] inside = {{"", ""}, {"NAME (", ")"}, {"NAME = (", ")"}, {"NAME = {", "}"}, {"NAME [", "] = NAME"},
            {"NAME = { [", "] = NAME }"}, {"return ( (", ") )"}, {"return NAME {", "}"}};
        for (int n = 0; n < 600; n++) {
            StringBuilder before = new StringBuilder();
            StringBuilder behind = new StringBuilder();
            int wanted = 45 + random(4);
            for (int i = 0; i < 60 && levels(before.toString()) < wanted; i++) {
                String[] way = ways[random(random(3) == 0 ? ways.length : 5)];
                before.append(way[0]).append(' ');
                behind.insert(0, way[1] + " ");
            }
            String[] way = inside[random(inside.length)];
            List<String> row = new ArrayList<>();
            addAll(row, before + way[0]);
            derive(way[0].isEmpty() ? "statement" : "exp", 1 + random(4), row);
            addAll(row, way[1] + " " + behind);
            if (random(3) == 0) {
                spoil(row, row.size() / 2);
            }
            if (row.size() < 300) {
                compare(row);
            }
        }
    }

    private static void addAll(List<String> row, String text) {
        for (String word : text.trim().split(" +")) {
            if (!word.isEmpty()) {
                row.add(word);
            }
        }
    }

    private static int levels(String text) {
        int levels = 0;
        for (String word : text.trim().split(" ")) {
            levels += (CLOSERS.contains(" " + word + " ") ? -1 : 0) + (OPENERS.contains(" " + word + " ") ? 1 : 0);
        }
        return levels;
    }

    private void compare(List<String> row) {
        StringBuilder text = new StringBuilder();
        for (String word : row) {
            text.append(word.equals("NAME") ? "a" : word.equals("NUMERAL") ? "1" : word.equals("TEXT") ? "\"s\"" : word);
            text.append(' ');
        }
        String due = due(row);
        String got = Check.outcome(text.toString());
        boolean ofNames = got.matches("fault (9|1[0-6]) at .*");
        check.same(text.toString(), due, ofNames ? "no fault" : got);
    }

    /** What the grammar and the levels alone say of a row. */
    private String due(List<String> row) {
        List<Set<Long>> sets = new ArrayList<>();
        int levels = 0;
        Set<Long> now = new HashSet<>();
        for (int rule : rulesOf.get("chunk")) {
            now.add(item(rule, 0, 0));
        }
        sets.add(now);
        for (int at = 0; at < row.size(); at++) {
            String word = " " + row.get(at) + " ";
            complete(sets, at, row.get(at));
            Set<Long> next = scan(sets.get(at), row.get(at));
            if (next.isEmpty()) {
                return "fault 7 at " + at;
            }
            levels += (CLOSERS.contains(word) ? -1 : 0) + (OPENERS.contains(word) ? 1 : 0);
            if (levels > 48) {
                return "fault 8 at " + at;
            }
            sets.add(next);
        }
        complete(sets, row.size(), "");
        boolean whole = false;
        for (int rule : rulesOf.get("chunk")) {
            whole = whole || sets.get(row.size()).contains(item(rule, rules.get(rule).length, 0));
        }
        return whole ? "no fault" : "fault 7 at " + row.size();
    }

    private static long item(int rule, int dot, int origin) {
        return (long) rule << 40 | (long) dot << 32 | origin;
    }

    private Set<Long> scan(Set<Long> from, String word) {
        Set<Long> next = new HashSet<>();
        for (long item : from) {
            String[] rule = rules.get((int) (item >> 40));
            int dot = (int) (item >> 32) & 255;
            if (dot < rule.length && rule[dot].equals(word) && !rulesOf.containsKey(rule[dot])) {
                next.add(item + (1L << 32));
            }
        }
        return next;
    }

    private void complete(List<Set<Long>> sets, int at, String next) {
        Set<Long> set = sets.get(at);
        List<Long> work = new ArrayList<>(set);
        for (int n = 0; n < work.size(); n++) {
            long item = work.get(n);
            int number = (int) (item >> 40);
            int dot = (int) (item >> 32) & 255;
            String[] rule = rules.get(number);
            List<Long> found = new ArrayList<>();
            if (dot == rule.length) {
                if (!mustGoOn(number, next)) {
                    for (long waiting : sets.get((int) item).toArray(new Long[0])) {
                        if (waitsFor(waiting, heads.get(number))) {
                            found.add(waiting + (1L << 32));
                        }
                    }
                }
            } else if (rulesOf.containsKey(rule[dot])) {
                for (int begun : rulesOf.get(rule[dot])) {
                    found.add(item(begun, 0, at));
                }
                if (mayBeEmpty(rule[dot])) {
                    found.add(item + (1L << 32));
                }
            }
            for (long one : found) {
                if (set.add(one)) {
                    work.add(one);
                }
            }
        }
    }

    private boolean waitsFor(long item, String head) {
        String[] rule = rules.get((int) (item >> 40));
        int dot = (int) (item >> 32) & 255;
        return dot < rule.length && rule[dot].equals(head);
    }

    // "Args behind a prefix are always its args": before a word that begins args no prefix ends.
    private boolean mustGoOn(int rule, String next) {
        boolean prefixEnds = heads.get(rule).equals("exp") && rules.get(rule)[0].equals("prefix")
            || heads.get(rule).equals("statement") && rules.get(rule)[0].equals("call");
        return prefixEnds && (next.equals("(") || next.equals("{") || next.equals("TEXT"));
    }

    private static boolean mayBeEmpty(String head) {
        return head.equals("block") || head.equals("statements") || head.equals("elseifs");
    }

    /** A row that the grammar has; below the depth the plainest form is taken. */
    private void derive(String head, int depth, List<String> row) {
        if (!rulesOf.containsKey(head)) {
            row.add(head);
            return;
        }
        List<Integer> ways = rulesOf.get(head);
        int way = depth > 0 || head.equals("binary") ? random(ways.size()) : 0;
        for (String part : rules.get(ways.get(way))) {
            derive(part, depth - 1, row);
        }
    }

    private void spoil(List<String> row, int from) {
        int at = from + random(row.size() - from + 1);
        int way = random(4);
        if (way == 0 || at >= row.size()) {
            row.add(Math.min(at, row.size()), WORDS[random(WORDS.length)]);
        } else if (way == 1) {
            row.set(at, WORDS[random(WORDS.length)]);
        } else if (way == 2) {
            row.remove(at);
        } else {
            row.subList(at, row.size()).clear();
        }
    }

    // The same rows in every run: no source of chance but this number.
    private int random(int bound) {
        seed = seed * 6364136223846793005L + 1442695040888963407L;
        return (int) ((seed >>> 33) % bound);
    }
}
