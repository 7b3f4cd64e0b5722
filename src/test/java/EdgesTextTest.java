/**
 * Terms I, sentence by sentence: each bound that a BOARD's text has, by the last text that is still
 * good and the first that is not. A text that is not leaves all as it was, and is counted once.
 */
public final class EdgesTextTest {
    private static final String HEAD = "board 5 by 5 white 1 black 1;";
    private static final String KIND = "kind k ways 3 reach 1 worth 1;";
    /** What is there while a text with a FAULT is told: a game that was played on. */
    private static GardenChess old;

    public static void main(String[] args) {
        old = playedOn();
        statements();
        firstStatement();
        columnsAndRows();
        looks();
        kindNumbers();
        crowns();
        kindCount();
        manNumbers();
        manPlaces();
        manCount();
        fieldNumbers();
        fieldCount();
        oneHarm();
        grows();
        sleepy();
        nameLetters();
        ownWords();
        unlikeNames();
        toldAhead();
        digits();
        blanks();
        wordsWhole();
        tooSoon();
        openOnes();
        firstAlongTheText();
        Bench.close("EdgesTextTest");
    }

    private static GardenChess playedOn() {
        GardenChess x = Bench.on("board 3 by 3 white 2 black 1;kind r ways 1 reach 2 worth 5;kind c ways 3 reach 1 worth 9 crown;"
            + "man a is r of 0 at 0 0;man b is c of 1 at 2 1;field f at 1 1 bears 300;harm off;grows 2;sleepy 50;");
        x.play(0);
        x.tend(0, 9);
        Bench.tape(x, 0, 1, 44);
        x.see();
        x.image();
        x.end(99);
        return x;
    }

    private static void good(String text) {
        Bench.faulty(text, 0, Bench.NONE);
    }

    /** The FAULT lies at the place of the sign ^, which is no part of the text. */
    private static void bad(int fault, String marked) {
        int place = marked.indexOf('^');
        String text = marked.substring(0, place) + marked.substring(place + 1);
        Picture.refusedBoard(old, text, fault, place);
        Bench.faulty(text, fault, place);
    }

    private static String repeat(String text, int n) {
        return text.repeat(n);
    }

    /** Statements "start a.. rest" with unlike NAMES. */
    private static String many(int n, String start, String rest) {
        StringBuilder text = new StringBuilder();
        for (int i = 0; i < n; i++) {
            text.append(start).append(' ').append(start.charAt(0)).append((char) ('a' + i)).append(rest);
        }
        return text.toString();
    }

    private static String men(int n) {
        StringBuilder text = new StringBuilder(KIND);
        for (int i = 0; i < n; i++) {
            text.append("man m").append((char) ('a' + i)).append(" is k of ").append(i % 2).append(" at ");
            text.append(i % 5).append(' ').append(i / 5).append(';');
        }
        return text.toString();
    }

    // ---- "{ STATEMENT ; } (60 at most)"; "a 61st STATEMENT (whatever stands there), at its first byte"

    private static void statements() {
        GardenChess x = new GardenChess();
        Bench.due("1 STATEMENT", Bench.board(x, HEAD), 1);
        Bench.due("59 STATEMENTS", Bench.board(x, HEAD + repeat("grows 1;", 58)), 59);
        Bench.due("60 STATEMENTS", Bench.board(x, HEAD + repeat("grows 1;", 59)), 60);
        Bench.due("60 STATEMENTS and blanks", Bench.board(x, HEAD + repeat("grows 1;", 59) + "\n  \n"), 60);
        String[] last = {"grows 1;", "grows", "board 3 by 3 white 1 black 1;", "?", ";", "zzzzzzzzz", "12345", "\u00ff", "0"};
        for (String sixtyFirst : last) {
            bad(5, HEAD + repeat("grows 1;", 59) + "^" + sixtyFirst);
            bad(5, HEAD + repeat("grows 1;", 59) + " \n ^" + sixtyFirst);
        }
        bad(1, HEAD + repeat("grows 1;", 58) + "grows 1^");
        bad(2, HEAD + repeat("grows 1;", 58) + "grows ^100;grows 1;");
        bad(1, "^");
        bad(1, "   ^");
        bad(1, "\n^");
        bad(1, "^;");
    }

    // ---- "the first STATEMENT, and it alone"

    private static void firstStatement() {
        bad(1, "^grows 1;");
        bad(1, "^kind k ways 1 reach 1 worth 1;" + HEAD);
        bad(1, " ^harm 1;");
        bad(1, HEAD + "^board 5 by 5 white 1 black 1;");
        bad(1, HEAD + "grows 1; ^board 5 by 5 white 1 black 1;");
    }

    // ---- "2 .. 5 columns, rows"

    private static void columnsAndRows() {
        for (int n = 2; n <= 5; n++) {
            GardenChess x = Bench.on("board " + n + " by " + (7 - n) + " white 1 black 1;");
            Bench.due("columns", x.has(0), n);
            Bench.due("rows", x.has(1), 7 - n);
        }
        for (int n : new int[] {0, 1, 6, 7, 10, 55, 9999}) {
            bad(2, "board ^" + n + " by 5 white 1 black 1;");
            bad(2, "board 5 by ^" + n + " white 1 black 1;");
        }
    }

    // ---- "1 .. 2 each, how deep they look"

    private static void looks() {
        for (int white = 1; white <= 2; white++) {
            for (int black = 1; black <= 2; black++) {
                good("board 2 by 2 white " + white + " black " + black + ";");
            }
        }
        for (int n : new int[] {0, 3, 10, 9999}) {
            bad(2, "board 2 by 2 white ^" + n + " black 1;");
            bad(2, "board 2 by 2 white 1 black ^" + n + ";");
        }
    }

    // ---- "1 straight, 2 aslant, 3 both, 4 leaps; 1 .. 4; 0 .. 99"

    private static void kindNumbers() {
        for (int n = 1; n <= 4; n++) {
            GardenChess x = Bench.on(HEAD + "kind k ways " + n + " reach " + (5 - n) + " worth 1;");
            Bench.due("ways", x.kind(0, 0), n);
            Bench.due("reach", x.kind(0, 1), 5 - n);
        }
        for (int n : new int[] {0, 5, 6, 14, 9999}) {
            bad(2, HEAD + "kind k ways ^" + n + " reach 1 worth 1;");
            bad(2, HEAD + "kind k ways 1 reach ^" + n + " worth 1;");
        }
        for (int n : new int[] {0, 1, 98, 99}) {
            Bench.due("worth", Bench.on(HEAD + "kind k ways 1 reach 1 worth " + n + ";").kind(0, 2), n);
        }
        bad(2, HEAD + "kind k ways 1 reach 1 worth ^100;");
        bad(2, HEAD + "kind k ways 1 reach 1 worth ^9999 crown;");
    }

    // ---- "then crown if its men are CROWNS"

    private static void crowns() {
        Bench.due("crown", Bench.on(HEAD + "kind k ways 1 reach 1 worth 1 crown;").kind(0, 3), 1);
        Bench.due("no crown", Bench.on(HEAD + "kind k ways 1 reach 1 worth 1;").kind(0, 3), 0);
        bad(1, HEAD + "kind k ways 1 reach 1 worth 1 crown ^crown;");
        bad(1, HEAD + "kind k ways 1 reach 1 worth 1 ^king;");
        bad(1, HEAD + "kind k ^crown ways 1 reach 1 worth 1;");
        bad(1, HEAD + "kind k ways 1 reach 1 worth 1^crown;");
    }

    // ---- "5 KINDS"

    private static void kindCount() {
        String rest = " ways 1 reach 1 worth 1;";
        Bench.due("5 KINDS", Bench.on(HEAD + many(5, "kind", rest)).has(2), 5);
        bad(5, HEAD + many(5, "kind", rest) + "^kind kz ways 1 reach 1 worth 1;");
        bad(5, HEAD + many(5, "kind", rest) + "grows 1; ^kind ka ways 9");
        bad(5, HEAD + many(5, "kind", rest) + "^kind");
        bad(1, HEAD + many(5, "kind", rest) + "^kindx");
    }

    // ---- "a KIND; SIDE 0 white, 1 black"

    private static void manNumbers() {
        Bench.due("SIDE 0", Bench.on(HEAD + KIND + "man m is k of 0 at 0 0;").man(0, 3), 0);
        Bench.due("SIDE 1", Bench.on(HEAD + KIND + "man m is k of 1 at 0 0;").man(0, 3), 1);
        bad(2, HEAD + KIND + "man m is k of ^2 at 0 0;");
        bad(2, HEAD + KIND + "man m is k of ^9999 at 0 0;");
    }

    // ---- "a column, a row from 0 on, on which no man stands"; "2 ... of a place on which a man stands the row"

    private static void manPlaces() {
        for (int columns = 2; columns <= 5; columns++) {
            int rows = 7 - columns;
            String board = "board " + columns + " by " + rows + " white 1 black 1;" + KIND;
            GardenChess x = Bench.on(board + "man m is k of 0 at " + (columns - 1) + " " + (rows - 1) + ";man n is k of 0 at 0 0;");
            Bench.due("the last place", x.at(columns - 1, rows - 1), 0);
            Bench.due("the first place", x.at(0, 0), 1);
            bad(2, board + "man m is k of 0 at ^" + columns + " 0;");
            bad(2, board + "man m is k of 0 at 0 ^" + rows + ";");
            bad(2, board + "man m is k of 0 at ^" + columns + " " + rows + ";");
            bad(2, board + "field f at ^" + columns + " 0 bears 1;");
            bad(2, board + "field f at 0 ^" + rows + " bears 1;");
            good(board + "field f at " + (columns - 1) + " " + (rows - 1) + " bears 1;");
        }
        String one = HEAD + KIND + "man m is k of 0 at 3 2;";
        bad(2, one + "man n is k of 0 at 3 ^2;");
        bad(2, one + "man n is k of 1 at 3 ^0002;");
        good(one + "man n is k of 1 at 2 3;");
        good(one + "man n is k of 1 at 3 3;");
        good(one + "man n is k of 1 at 2 2;");
        good(one + "field f at 3 2 bears 1;field g at 3 2 bears 1;");
        good(HEAD + KIND + "field f at 3 2 bears 1;man m is k of 0 at 3 2;");
    }

    // ---- "8 MEN"

    private static void manCount() {
        Bench.due("8 MEN", Bench.on(HEAD + men(8)).has(3), 8);
        bad(5, HEAD + men(8) + "^man x is k of 0 at 4 4;");
        bad(5, HEAD + men(8) + "grows 1;^man");
        bad(5, HEAD + men(8) + "^man ma is zz of 9");
    }

    // ---- "a place; 1 .. 999"

    private static void fieldNumbers() {
        for (int n : new int[] {1, 2, 998, 999}) {
            Bench.due("bears", Bench.on(HEAD + "field f at 0 0 bears " + n + ";").field(0, 2), n);
        }
        for (int n : new int[] {0, 1000, 9999}) {
            bad(2, HEAD + "field f at 0 0 bears ^" + n + ";");
        }
    }

    // ---- "6 FIELDS"

    private static void fieldCount() {
        String rest = " at 4 4 bears 999;";
        GardenChess x = Bench.on(HEAD + many(6, "field", rest));
        Bench.due("6 FIELDS", x.has(4), 6);
        Bench.due("what all bear", x.has(9), 6 * 999);
        bad(5, HEAD + many(6, "field", rest) + "^field fz at 0 0 bears 1;");
        bad(5, HEAD + many(6, "field", rest) + " ^field 7");
    }

    // ---- "harm SUM (one)"; "a second harm, too"

    private static void oneHarm() {
        good(HEAD + "harm 1;");
        bad(5, HEAD + "harm 1;^harm 1;");
        bad(5, HEAD + "harm 1;grows 1; ^harm");
    }

    // ---- "grows N (0 .. 99; 0 without)"; "the last one of each counts"

    private static int grown(String rest) {
        GardenChess x = Bench.on(HEAD + "field f at 0 0 bears 10;" + rest);
        x.days(1);
        return x.field(0, 2) - 10;
    }

    private static void grows() {
        Bench.due("without", grown(""), 0);
        Bench.due("grows 0", grown("grows 0;"), 0);
        Bench.due("grows 1", grown("grows 1;"), 1);
        Bench.due("grows 99", grown("grows 99;"), 99);
        Bench.due("the last one counts", grown("grows 99;grows 7;"), 7);
        Bench.due("the last one counts, though it is 0", grown("grows 99;sleepy 3;grows 0;"), 0);
        bad(2, HEAD + "grows ^100;");
        bad(2, HEAD + "grows ^9999;grows 1;");
    }

    // ---- "sleepy N (0 .. 100; 0 without)": a DRAW of 100 is 0 .. 99

    private static int slept(String rest, int draw) {
        GardenChess x = Bench.on(HEAD + KIND + "man m is k of 0 at 2 2;" + rest);
        x.seed(seedThatDraws(draw));
        return x.chance(1);
    }

    private static int seedThatDraws(int draw) {
        int seed = 0;
        while ((1103515245L * seed + 12345L) % (1L << 31) / 64 % 100 != draw) {
            seed++;
        }
        return seed;
    }

    private static void sleepy() {
        Bench.due("without, a DRAW of 0", slept("", 0), 0);
        Bench.due("sleepy 0, a DRAW of 0", slept("sleepy 0;", 0), 0);
        Bench.due("sleepy 1, a DRAW of 0", slept("sleepy 1;", 0), 1);
        Bench.due("sleepy 1, a DRAW of 1", slept("sleepy 1;", 1), 0);
        Bench.due("sleepy 99, a DRAW of 98", slept("sleepy 99;", 98), 1);
        Bench.due("sleepy 99, a DRAW of 99", slept("sleepy 99;", 99), 0);
        Bench.due("sleepy 100, a DRAW of 99", slept("sleepy 100;", 99), 1);
        Bench.due("the last one counts", slept("sleepy 100;sleepy 0;", 0), 0);
        Bench.due("the last one counts", slept("sleepy 0;sleepy 100;", 99), 1);
        bad(2, HEAD + "sleepy ^101;");
        bad(2, HEAD + "sleepy ^9999;");
    }

    // ---- "NAMES: 1 to 6 letters"; "a 7th letter at itself"

    private static void nameLetters() {
        good(HEAD + "kind a ways 1 reach 1 worth 1;man b is a of 0 at 0 0;field c at 0 0 bears 1;");
        GardenChess x = Bench.on(HEAD + "kind zyxwvu ways 1 reach 1 worth 1;man abcdef is zyxwvu of 0 at 0 0;field zzzzzz at 0 0 bears 1;");
        for (int k = 0; k < 6; k++) {
            Bench.due("letter of a KIND", x.letter(0, 0, k), 26 - k);
            Bench.due("letter of a MAN", x.letter(1, 0, k), k + 1);
            Bench.due("letter of a FIELD", x.letter(2, 0, k), 26);
        }
        bad(1, HEAD + "kind abcdef^g ways 1 reach 1 worth 1;");
        bad(1, HEAD + "kind abcdef^ghijklmnop ways 1 reach 1 worth 1;");
        bad(1, HEAD + KIND + "man abcdef^g is k of 0 at 0 0;");
        bad(1, HEAD + KIND + "man a is kkkkkk^k of 0 at 0 0;");
        bad(1, HEAD + "field abcdef^g at 0 0 bears 1;");
        bad(1, HEAD + "kind ^1 ways 1 reach 1 worth 1;");
        bad(1, HEAD + "kind ^;");
        for (String sign : new String[] {"A", "Z", "`", "{", "@", "[", "_", "/", ":", "\u00e4", "\u0000", "\u007f", "\t", "\r"}) {
            bad(1, HEAD + "kind ^" + sign + " ways 1 reach 1 worth 1;");
            bad(1, HEAD + "kind k^" + sign + " ways 1 reach 1 worth 1;");
        }
    }

    // ---- "no OWN WORD"; "where a NAME is asked, an OWN WORD so" (at its first byte)

    private static void ownWords() {
        String all = "board by white black kind ways reach worth crown man is of at field bears harm grows sleepy taken check off day"
            + " number column row side moves or and not all min max";
        for (String word : all.split(" ")) {
            bad(1, HEAD + "kind ^" + word + " ways 1 reach 1 worth 1;");
            bad(1, HEAD + KIND + "man ^" + word + " is k of 0 at 0 0;");
            bad(1, HEAD + KIND + "man a is ^" + word + " of 0 at 0 0;");
            bad(1, HEAD + "field ^" + word + " at 0 0 bears 1;");
            String less = word.substring(1);
            if (!(" " + all + " ").contains(" " + less + " ")) {
                good(HEAD + "kind " + less + " ways 1 reach 1 worth 1;");
            }
            if (word.length() < 6) {
                good(HEAD + "kind " + word + "z ways 1 reach 1 worth 1;");
            } else {
                bad(1, HEAD + "kind " + word + "^z ways 1 reach 1 worth 1;");
            }
        }
        for (String word : "first last often total most least".split(" ")) {
            good(HEAD + "kind " + word + " ways 1 reach 1 worth 1;");
        }
    }

    // ---- "unlike ones (of all sorts)"; "3 a NAME to be given that is there already"

    private static void unlikeNames() {
        String all = HEAD + KIND + "man m is k of 0 at 0 0;field f at 0 0 bears 1;";
        for (String name : new String[] {"k", "m", "f"}) {
            bad(3, all + "kind ^" + name + " ways 1 reach 1 worth 1;");
            bad(3, all + "man ^" + name + " is k of 0 at 1 1;");
            bad(3, all + "field ^" + name + " at 0 0 bears 1;");
        }
        good(all + "kind kk ways 1 reach 1 worth 1;man mm is k of 0 at 1 1;field ff at 0 0 bears 1;");
        good(HEAD + "kind abcdef ways 1 reach 1 worth 1;kind abcde ways 1 reach 1 worth 1;kind bcdef ways 1 reach 1 worth 1;"
            + "kind abcdeg ways 1 reach 1 worth 1;kind fedcba ways 1 reach 1 worth 1;");
        bad(3, HEAD + "kind abcdef ways 1 reach 1 worth 1;kind ^abcdef");
    }

    // ---- "told ahead of where they are asked"; "one that is none of what is asked"

    private static void toldAhead() {
        bad(3, HEAD + "man m is ^k of 0 at 0 0;" + KIND);
        bad(3, HEAD + KIND + "man m is ^m of 0 at 0 0;");
        bad(3, HEAD + KIND + "man m is k of 0 at 0 0;man n is ^m of 0 at 1 0;");
        bad(3, HEAD + KIND + "field f at 0 0 bears 1;man n is ^f of 0 at 1 0;");
        bad(3, HEAD + KIND + "man m is ^kk of 0 at 0 0;");
        good(HEAD + KIND + "kind kk ways 1 reach 1 worth 1;man m is kk of 0 at 0 0;");
    }

    // ---- "N (1 to 4 digits)"; "where a number is asked, a 5th digit at itself"

    private static void digits() {
        good("board 0002 by 002 white 01 black 1;");
        good(HEAD + "harm 0;");
        good(HEAD + "harm 9999;");
        good(HEAD + "harm 0000;");
        bad(1, HEAD + "harm 0000^0;");
        bad(1, HEAD + "harm 9999^9;");
        bad(1, HEAD + "harm 1234^567890123456789;");
        bad(1, HEAD + "grows 0000^1;");
        bad(1, "board 0000^2 by 2 white 1 black 1;");
        bad(1, "board 2 by 0000^2 white 1 black 1;");
        bad(1, "board 2 by 2 white 0000^1 black 1;");
        bad(1, "board 2 by 2 white 1 black 0000^1;");
        bad(1, HEAD + "kind k ways 0000^1 reach 1 worth 1;");
        bad(1, HEAD + "kind k ways 1 reach 0000^1 worth 1;");
        bad(1, HEAD + "kind k ways 1 reach 1 worth 0000^1;");
        bad(1, HEAD + KIND + "man m is k of 0000^0 at 0 0;");
        bad(1, HEAD + KIND + "man m is k of 0 at 0000^0 0;");
        bad(1, HEAD + KIND + "man m is k of 0 at 0 0000^0;");
        bad(1, HEAD + "field f at 0000^0 0 bears 1;");
        bad(1, HEAD + "field f at 0 0000^0 bears 1;");
        bad(1, HEAD + "field f at 0 0 bears 0000^1;");
        bad(1, HEAD + "sleepy 0000^1;");
        bad(1, HEAD + "grows ^;");
        bad(1, HEAD + "grows ^-1;");
        bad(1, HEAD + "grows ^x;");
    }

    // ---- "Blanks (10, 32) are where one likes (words and numbers side by side need one)"

    private static void blanks() {
        good("\n \nboard\n5 by\n\n5 white 1 black 1\n;\n kind   k ways 1 reach 1 worth 1 crown ; harm ( 1 + 2 ) * min ( 3 , 4 ) ; \n");
        good(HEAD + "harm(1+2)*min(3,4)/max(off,5)-taken;");
        for (int sign = 0; sign < 256; sign++) {
            if (sign != 10 && sign != 32) {
                boolean joins = sign >= 'a' && sign <= 'z';
                bad(1, joins ? "^board" + (char) sign + "5 by 5 white 1 black 1;" : "board^" + (char) sign + "5 by 5 white 1 black 1;");
                if (sign != ';') {
                    bad(isDigit(sign) ? 2 : 1, joinedBehindNumber(sign));
                }
            }
        }
        bad(1, "board^5 by 5 white 1 black 1;");
        bad(1, "board 5^by 5 white 1 black 1;");
        bad(1, "^boardx 5 by 5 white 1 black 1;");
        bad(1, HEAD + "grows^1;");
        bad(1, HEAD + "kind k^1 ways 1 reach 1 worth 1;");
        bad(1, HEAD + "kind k ways 1^reach 1 worth 1;");
        bad(1, HEAD + "harm 1^taken;");
        bad(1, HEAD + "harm taken^1;");
        bad(1, HEAD + "harm 1 ^2;");
        bad(1, HEAD + "harm taken ^check;");
    }

    /** A sign right behind the last number of the first STATEMENT: a digit makes it another number. */
    private static String joinedBehindNumber(int sign) {
        String ahead = "board 5 by 5 white 1 black ";
        if (isDigit(sign)) {
            return ahead + "^1" + (char) sign + ";";
        }
        return ahead + "1^" + (char) sign + ";";
    }

    private static boolean isDigit(int sign) {
        return sign >= '0' && sign <= '9';
    }

    // ---- "words and numbers whole, at their first byte"

    private static void wordsWhole() {
        bad(1, "^boar 5 by 5 white 1 black 1;");
        bad(1, "^b");
        bad(1, "board 5 ^bye 5 white 1 black 1;");
        bad(1, "board 5 by 5 ^whit 1 black 1;");
        bad(1, "board 5 by 5 white 1 ^blacky 1;");
        bad(1, "board 5 ^12345 5");
        bad(1, "board ^by 5");
        bad(1, HEAD + "^kin k");
        bad(1, HEAD + "^manx");
        bad(1, HEAD + "^growsgrowsgrows 1;");
        bad(1, HEAD + "^grow");
        bad(1, HEAD + "^k;");
        bad(1, HEAD + "^1;");
        bad(1, HEAD + "harm ^take;");
        bad(1, HEAD + "harm ^takens;");
        bad(1, HEAD + "harm ^minx(1,2);");
        for (String word : "board by white black kind ways reach worth crown man is of at field bears harm grows sleepy number column row side moves or and not all first last often total most least k".split(" ")) {
            bad(1, HEAD + "harm ^" + word + ";");
        }
    }

    // ---- "at the text's length, if it ends too soon"

    private static void tooSoon() {
        String[] whole = ("board 5 by 5 white 1 black 1 ; kind k ways 3 reach 2 worth 9 crown ; man a is k of 1 at 2 0 ;"
            + " field f at 0 1 bears 90 ; harm min ( taken * 2 , 7 ) + max ( ( off ) , day ) / check - 3 ; grows 4 ; sleepy 5 ;").split(" ");
        StringBuilder text = new StringBuilder();
        for (String piece : whole) {
            text.append(text.length() > 0 ? " " : "").append(piece);
            if (piece.equals(";")) {
                good(text.toString());
            } else {
                bad(1, text + "^");
                bad(1, text + "  \n^");
            }
        }
    }

    // ---- "4 the 7th ( that is open at once, at it"

    private static void openOnes() {
        good(HEAD + "harm ((((((1))))));");
        bad(4, HEAD + "harm ((((((^(1)))))));");
        bad(4, HEAD + "harm ((((((^(");
        bad(4, HEAD + "harm ((((((1+^(2");
        bad(1, HEAD + "harm ((((((1)+(2^");
        good(HEAD + "harm ((((((1)+(2))))));");
        good(HEAD + "harm (((((1)))))+((((((1))))));");
        bad(4, HEAD + "harm (((((1)))))+((((((^(1)))))));");
        good(HEAD + "harm min(min(min(min(min(min(1,1),1),1),1),1),1);");
        bad(4, HEAD + "harm min(min(min(min(min(min(^(1),1),1),1),1),1),1);");
        bad(4, HEAD + "harm min(min(min(min(min(min(min^(1,1),1),1),1),1),1),1);");
        bad(4, HEAD + "harm max(1,max(1,max(1,max(1,max(1,max(1,max ^(1,1)))))));");
        bad(4, HEAD + "harm max(1,max(1,max(1,max(1,max(1,max(1,^(1)))))));");
        bad(1, HEAD + "harm ((((((min ^1");
        bad(1, HEAD + "harm ((((((1))))))^);");
        bad(1, HEAD + "harm ((((((1)))))^;");
    }

    // ---- "FAULTS, the first along the text"

    private static void firstAlongTheText() {
        bad(2, "board ^9 by 9 white 9 black 9;kind board;");
        bad(3, HEAD + KIND + "kind ^k ways 9 reach 9;kind;");
        bad(1, HEAD + KIND + "kind z^? k ways 9;");
        bad(2, HEAD + KIND + "man m is k of ^7 at 9 9;man m is zz");
        bad(3, HEAD + KIND + "man m is ^z of 7 at 9 9;");
        bad(2, HEAD + "grows ^100x;");
        bad(1, HEAD + "grows 9^x 100;");
        bad(4, HEAD + "harm ((((((^(;harm 1;");
    }
}
