import java.util.ArrayDeque;
import java.util.Arrays;
import java.util.Deque;
import java.util.HashMap;
import java.util.HashSet;
import java.util.List;
import java.util.Map;
import java.util.Set;

/**
 * The texts of Terms I and IV once more: what is still asked of a text lies on a pile, and each word,
 * number or sign is held against what lies on top. PlainReaderTest compares FAULTS with it.
 */
final class PlainReader {
    private static final Set<String> OWN = new HashSet<>(Arrays.asList(("board by white black kind ways reach worth crown man is of at"
        + " field bears harm grows sleepy taken check off day number column row side moves or and not all min max").split(" ")));
    private static final List<String> OF_MOVE = Arrays.asList("taken", "check", "off", "day");
    private static final List<String> OF_MAN = Arrays.asList("number", "column", "row", "side", "worth", "reach", "moves", "day");

    int fault = 0;
    int place = -1;
    int statements = 0;

    private final String text;
    private int from = 0;
    private String token = "";
    private boolean glued = false;
    private final Deque<String> asked = new ArrayDeque<>();
    private final boolean question;
    private int open = 0;
    private final Map<String, String> names = new HashMap<>();
    private final Map<String, Integer> told = new HashMap<>();
    private final Set<String> held = new HashSet<>();
    private int columns = 0;
    private int rows = 0;
    private int column = 0;

    private PlainReader(String text, boolean question) {
        this.text = text;
        this.question = question;
        ask(question ? "QUESTION" : "FIRST");
        read(0);
        while (fault == 0 && !asked.isEmpty()) {
            meet(asked.pop());
        }
        if (fault == 0 && !token.isEmpty()) {
            fail(1, from);
        }
    }

    static PlainReader ofBoard(String text) {
        return new PlainReader(text, false);
    }

    static PlainReader ofQuestion(String text) {
        return new PlainReader(text, true);
    }

    /** How many STATEMENTS that begin so there are. */
    int many(String word) {
        return told.getOrDefault(word, 0);
    }

    private void fail(int what, int where) {
        if (fault == 0) {
            fault = what;
            place = where;
        }
    }

    /** What is asked, in this order, ahead of all that was asked before. */
    private void ask(String... what) {
        for (int i = what.length - 1; i >= 0; i--) {
            asked.push(what[i]);
        }
    }

    // ---- words, numbers, signs

    private static char sort(char sign) {
        return sign >= 'a' && sign <= 'z' ? 'a' : sign >= '0' && sign <= '9' ? '0' : sign == ' ' || sign == '\n' ? ' ' : '!';
    }

    private void read(int at) {
        String last = token;
        from = at;
        while (from < text.length() && sort(text.charAt(from)) == ' ') {
            from++;
        }
        int behind = from;
        while (behind < text.length() && sort(text.charAt(behind)) == sort(text.charAt(from))
            && (behind == from || sort(text.charAt(from)) != '!')) {
            behind++;
        }
        token = text.substring(from, behind);
        glued = from == at && isWhole(last) && isWhole(token);
    }

    private static boolean isWhole(String token) {
        return !token.isEmpty() && sort(token.charAt(0)) != '!';
    }

    private void next() {
        read(from + token.length());
    }

    private boolean is(String word) {
        return !glued && token.equals(word);
    }

    private boolean isNumber() {
        return !glued && !token.isEmpty() && sort(token.charAt(0)) == '0';
    }

    private boolean isName() {
        return !glued && !token.isEmpty() && sort(token.charAt(0)) == 'a' && !OWN.contains(token);
    }

    // ---- what is asked

    private void meet(String what) {
        if (what.startsWith("'")) {
            if (is(what.substring(1))) {
                next();
            } else {
                fail(1, from);
            }
        } else if (what.startsWith("#")) {
            number(what.substring(1));
        } else if (what.startsWith("new ")) {
            newName(what.substring(4));
        } else if (question) {
            meetOfQuestion(what);
        } else {
            meetOfBoard(what);
        }
    }

    private void number(String which) {
        if (!isNumber()) {
            fail(1, from);
        } else if (token.length() > 4) {
            fail(1, from + 4);
        } else if (!canBe(which, Integer.parseInt(token))) {
            fail(2, from);
        } else {
            next();
        }
    }

    private boolean canBe(String which, int n) {
        switch (which) {
            case "columns":
                columns = n;
                return n >= 2 && n <= 5;
            case "rows":
                rows = n;
                return n >= 2 && n <= 5;
            case "deep":
                return n >= 1 && n <= 2;
            case "ways":
            case "reach":
                return n >= 1 && n <= 4;
            case "worth":
            case "grows":
                return n <= 99;
            case "sleepy":
                return n <= 100;
            case "side":
                return n <= 1;
            case "column":
                column = n;
                return n < columns;
            case "row":
                return n < rows;
            case "empty row":
                return n < rows && held.add(column + " " + n);
            case "bears":
                return n >= 1 && n <= 999;
            default:
                return true;
        }
    }

    private void newName(String sort) {
        if (isLongOrNone()) {
            return;
        }
        if (names.containsKey(token)) {
            fail(3, from);
        } else {
            names.put(token, sort);
            next();
        }
    }

    private boolean isLongOrNone() {
        if (!isName()) {
            fail(1, from);
        } else if (token.length() > 6) {
            fail(1, from + 6);
        }
        return fault != 0;
    }

    // ---- I

    private void meetOfBoard(String what) {
        switch (what) {
            case "FIRST":
                if (token.isEmpty()) {
                    fail(1, text.length());
                }
                ask("'board", "#columns", "'by", "#rows", "'white", "#deep", "'black", "#deep", "';", "MORE");
                statements = 1;
                break;
            case "MORE":
                if (!token.isEmpty()) {
                    statement();
                }
                break;
            case "CROWN":
                if (is("crown")) {
                    next();
                }
                break;
            case "KIND":
                if (!isLongOrNone()) {
                    if ("kind".equals(names.get(token))) {
                        next();
                    } else {
                        fail(3, from);
                    }
                }
                break;
            default:
                meetOfSum(what);
        }
    }

    private void statement() {
        if (statements == 60) {
            fail(5, from);
            return;
        }
        statements++;
        ask("';", "MORE");
        int most = is("kind") ? 5 : is("man") ? 8 : is("field") ? 6 : is("harm") ? 1 : 60;
        if (told.merge(token, 1, Integer::sum) > most) {
            fail(5, from);
        } else if (is("kind")) {
            ask("'kind", "new kind", "'ways", "#ways", "'reach", "#reach", "'worth", "#worth", "CROWN");
        } else if (is("man")) {
            ask("'man", "new man", "'is", "KIND", "'of", "#side", "'at", "#column", "#empty row");
        } else if (is("field")) {
            ask("'field", "new field", "'at", "#column", "#row", "'bears", "#bears");
        } else if (is("harm")) {
            ask("'harm", "SUM");
        } else if (is("grows")) {
            ask("'grows", "#grows");
        } else if (is("sleepy")) {
            ask("'sleepy", "#sleepy");
        } else {
            fail(1, from);
        }
    }

    // ---- SUMS

    private void meetOfSum(String what) {
        switch (what) {
            case "SUM":
                ask("PRODUCT", "SUM'");
                break;
            case "SUM'":
                if (is("+") || is("-")) {
                    ask("'" + token, "PRODUCT", "SUM'");
                }
                break;
            case "PRODUCT":
                ask("PART", "PRODUCT'");
                break;
            case "PRODUCT'":
                if (is("*") || is("/")) {
                    ask("'" + token, "PART", "PRODUCT'");
                }
                break;
            case "PART":
                part();
                break;
            case "OPEN":
                open++;
                if (open == 7) {
                    fail(4, from);
                }
                break;
            default:
                open--;
        }
    }

    private void part() {
        if (isNumber()) {
            ask("#any");
        } else if (is("(")) {
            ask("OPEN", "'(", "SUM", "')", "CLOSE");
        } else if (is("min") || is("max")) {
            next();
            if (is("(")) {
                ask("OPEN", "'(", "SUM", "',", "SUM", "')", "CLOSE");
            } else {
                fail(1, from);
            }
        } else if (question && is("off")) {
            ask("OPEN", "'off", "PART", "CLOSE");
        } else if (!glued && (question ? OF_MAN : OF_MOVE).contains(token)) {
            next();
        } else {
            fail(1, from);
        }
    }

    // ---- IV

    private void meetOfQuestion(String what) {
        switch (what) {
            case "QUESTION":
                if (is("first") || is("last") || is("often")) {
                    ask("'" + token, "TEST");
                } else if (is("total") || is("most") || is("least")) {
                    ask("'" + token, "SUM");
                } else {
                    fail(1, from);
                }
                break;
            case "TEST":
                ask("BOTH", "TEST'");
                break;
            case "TEST'":
                if (is("or")) {
                    ask("'or", "BOTH", "TEST'");
                }
                break;
            case "BOTH":
                ask("FACT", "BOTH'");
                break;
            case "BOTH'":
                if (is("and")) {
                    ask("'and", "FACT", "BOTH'");
                }
                break;
            case "FACT":
                fact();
                break;
            case "SIGN":
                ask(is("<") || is(">") ? "'" + token : "'=");
                break;
            default:
                meetOfSum(what);
        }
    }

    private void fact() {
        if (is("not")) {
            ask("OPEN", "'not", "FACT", "CLOSE");
        } else if (is("[")) {
            ask("OPEN", "'[", "TEST", "']", "CLOSE");
        } else if (is("all")) {
            next();
        } else {
            ask("SUM", "SIGN", "SUM");
        }
    }
}
