/** Promises 4 and 5: the text of a BOARD, its FAULTS and their places. */
public final class BoardTextTest {
    private static final String HEAD = "board 3 by 3 white 1 black 1;";
    private static final int H = HEAD.length();
    private static final String KIND = "kind k ways 1 reach 1 worth 1;";
    private static final String[] OWN = ("board by white black kind ways reach worth crown man is of at"
        + " field bears harm grows sleepy taken check off day number column row side moves or and not"
        + " all min max").split(" ");

    public static void main(String[] args) {
        sizes();
        kinds();
        men();
        fields();
        harms();
        growing();
        names();
        numbers();
        blanks();
        counts();
        everyPlace();
        missingWords();
        staying();
        asAtFirst();
        nothingLeftOver();
        Bench.close("BoardTextTest");
    }

    private static void behind(String statements, int fault, int place) {
        Bench.faulty(HEAD + statements, fault, fault == 0 ? Bench.NONE : H + place);
    }

    private static void sizes() {
        Bench.faulty("", 1, 0);
        Bench.faulty(" \n ", 1, 3);
        Bench.faulty(";", 1, 0);
        Bench.faulty("  kind", 1, 2);
        Bench.faulty("boards 3", 1, 0);
        Bench.faulty("boar", 1, 0);
        Bench.faulty("board", 1, 5);
        Bench.faulty("board  ", 1, 7);
        Bench.faulty("board x", 1, 6);
        Bench.faulty("board 2 by 5 white 1 black 2;", 0, Bench.NONE);
        Bench.faulty("board 5 by 2 white 2 black 1;", 0, Bench.NONE);
        Bench.faulty("board 6 by 2 white 2 black 1;", 2, 6);
        Bench.faulty("board 1 by 2 white 2 black 1;", 2, 6);
        Bench.faulty("board 2 by 1 white 2 black 1;", 2, 11);
        Bench.faulty("board 2 by 6 white 2 black 1;", 2, 11);
        Bench.faulty("board 2 by 5 white 0 black 1;", 2, 19);
        Bench.faulty("board 2 by 5 white 3 black 1;", 2, 19);
        Bench.faulty("board 2 by 5 white 1 black 0;", 2, 27);
        Bench.faulty("board 2 by 5 white 1 black 3;", 2, 27);
        Bench.faulty("board 2 by 5 white 1 black 1", 1, 28);
        Bench.faulty("board 2 by 5 white 1 black 1 ;;", 1, 30);
        Bench.faulty("board 2 by 5 white 1 black 1 ;board 2", 1, 30);
        Bench.faulty("board 2 by 5 black 1 white 1;", 1, 13);
    }

    private static void kinds() {
        behind("kind k ways 4 reach 4 worth 99 crown;", 0, 0);
        behind("kind k ways 1 reach 1 worth 0;", 0, 0);
        behind("kind k ways 0 reach 1 worth 0;", 2, 12);
        behind("kind k ways 5 reach 1 worth 0;", 2, 12);
        behind("kind k ways 1 reach 0 worth 0;", 2, 20);
        behind("kind k ways 1 reach 5 worth 0;", 2, 20);
        behind("kind k ways 1 reach 1 worth 100;", 2, 28);
        behind("kind k ways 1 reach 1 worth 1 crowns;", 1, 30);
        behind("kind k ways 1 reach 1 worth 1 crown crown;", 1, 36);
        behind("kind k reach 1 ways 1 worth 1;", 1, 7);
        behind("kind", 1, 4);
        behind("kin", 1, 0);
        behind("kind ;", 1, 5);
        behind("kind 5;", 1, 5);
    }

    private static void men() {
        behind(KIND + "man a is k of 0 at 2 2;", 0, 0);
        behind(KIND + "man a is k of 1 at 0 0;", 0, 0);
        behind(KIND + "man a is k of 2 at 0 0;", 2, 44);
        behind(KIND + "man a is k of 0 at 3 0;", 2, 49);
        behind(KIND + "man a is k of 0 at 0 3;", 2, 51);
        behind(KIND + "man a is k of 0 at 1 1;man b is k of 1 at 1 1;", 2, 30 + 23 + 21);
        behind(KIND + "man a is k of 0 at 1 1;man b is k of 1 at 1 2;", 0, 0);
        behind(KIND + "man a is k of 0 at 1 1;man b is k of 1 at 2 1;", 0, 0);
        behind(KIND + "man a is l of 0 at 1 1;", 3, 39);
        behind(KIND + "man a is a of 0 at 1 1;", 3, 39);
        behind(KIND + "man k is k of 0 at 1 1;", 3, 34);
        behind("man a is k of 0 at 1 1;" + KIND, 3, 9);
        behind(KIND + "man a is of of 0 at 1 1;", 1, 39);
        behind(KIND + "man a is kkkkkkk of 0 at 1 1;", 1, 45);
        Bench.faulty("board 2 by 5 white 1 black 1;" + KIND + "man a is k of 0 at 2 0;", 2, H + 49);
        Bench.faulty("board 2 by 5 white 1 black 1;" + KIND + "man a is k of 0 at 1 4;", 0, Bench.NONE);
        Bench.faulty("board 5 by 2 white 1 black 1;" + KIND + "man a is k of 0 at 4 1;", 0, Bench.NONE);
        Bench.faulty("board 5 by 2 white 1 black 1;" + KIND + "man a is k of 0 at 4 2;", 2, H + 51);
    }

    private static void fields() {
        behind("field f at 2 2 bears 1;", 0, 0);
        behind("field f at 2 2 bears 999;field g at 2 2 bears 1;", 0, 0);
        behind("field f at 2 2 bears 0;", 2, 21);
        behind("field f at 2 2 bears 1000;", 2, 21);
        behind("field f at 3 2 bears 1;", 2, 11);
        behind("field f at 2 3 bears 1;", 2, 13);
        behind("field f at 2 2;", 1, 14);
        behind("field f at 2 2 bears 1;field f at 2 2 bears 1;", 3, 29);
        behind(KIND + "field k at 2 2 bears 1;", 3, 36);
        behind(KIND + "man f is k of 0 at 2 2;field f", 3, 59);
        behind(KIND + "man m is k of 0 at 2 2;field f at 2 2 bears 5;", 0, 0);
        behind("field f at 0 0 bears 1;kind f", 3, 28);
    }

    private static void harms() {
        behind("harm 1;", 0, 0);
        behind("harm taken+check-off*day/2;", 0, 0);
        behind("harm min(1,max(2,(3)));", 0, 0);
        behind("harm ((((((1))))));", 0, 0);
        behind("harm (((((((1)))))));", 4, 11);
        behind("harm min(1,min(1,min(1,min(1,min(1,min(1,1))))));", 0, 0);
        behind("harm min(1,min(1,min(1,min(1,min(1,min(1,(1)))))));", 4, 41);
        behind("harm (((((min(1,max(", 4, 19);
        behind("harm ((((((1)+((1))))));", 4, 15);
        behind("harm (1)+(1)+(1)+(1)+(1)+(1)+(1)+(1);", 0, 0);
        behind("harm ((((((1(", 1, 12);
        behind("harm min(min(min(min(min(min(1,1),1),1),1),1),1);", 0, 0);
        behind("harm min(min(min(min(min(min((1),1),1),1),1),1),1);", 4, 29);
        behind("harm max(1,max(1,max(1,max(1,max(1,max(1,max(1,1)))))));", 4, 44);
        behind("harm;", 1, 4);
        behind("harm min;", 1, 8);
        behind("harm min+1;", 1, 8);
        behind("harm min)", 1, 8);
        behind("harm min 1;", 1, 9);
        behind("harm min(1);", 1, 10);
        behind("harm min(1,2;", 1, 12);
        behind("harm (1;", 1, 7);
        behind("harm 1);", 1, 6);
        behind("harm 1+;", 1, 7);
        behind("harm -1;", 1, 5);
        behind("harm row;", 1, 5);
        behind("harm worth;", 1, 5);
        behind("harm oats;", 1, 5);
        behind("harm off 1;", 1, 9);
        behind("harm 1<2;", 1, 6);
        behind("harm [1];", 1, 5);
    }

    private static void growing() {
        behind("grows 0;grows 99;grows 5;", 0, 0);
        behind("grows 100;", 2, 6);
        behind("sleepy 0;sleepy 100;", 0, 0);
        behind("sleepy 101;", 2, 7);
        behind("grows;", 1, 5);
        behind("grows -1;", 1, 6);
    }

    private static void names() {
        behind("kind abcdef ways 1 reach 1 worth 1;", 0, 0);
        behind("kind abcdefg ways 1 reach 1 worth 1;", 1, 11);
        behind("kind abcdefghij ways 1 reach 1 worth 1;", 1, 11);
        behind("kind sleepyx", 1, 11);
        behind("kind A ways", 1, 5);
        behind("kind aB ways", 1, 6);
        behind("kind first ways 1 reach 1 worth 1;", 0, 0);
        for (String word : OWN) {
            behind("kind " + word + " ways 1 reach 1 worth 1;", 1, 5);
            behind(KIND + "man " + word + " is k of 0 at 0 0;", 1, 34);
            behind("field " + word + " at 0 0 bears 1;", 1, 6);
        }
        for (String word : new String[] {"first", "last", "often", "total", "most", "least", "boards", "b"}) {
            behind("field " + word + " at 0 0 bears 1;", 0, 0);
        }
    }

    private static void numbers() {
        behind("grows 0009;", 0, 0);
        behind("grows 00009;", 1, 10);
        behind("grows 99999;", 1, 10);
        behind("grows 9999;", 2, 6);
        behind("harm 9999;", 0, 0);
        behind("harm 12345;", 1, 9);
        behind("harm 1 2;", 1, 7);
    }

    private static void blanks() {
        Bench.faulty("\n board\n3  by 3 white 1 black\n1 ; ", 0, Bench.NONE);
        Bench.faulty("board3 by 3", 1, 5);
        Bench.faulty("board 3by 3", 1, 7);
        Bench.faulty("board\t3", 1, 5);
        behind("harm(1)+2*taken;", 0, 0);
        behind("harm 2taken;", 1, 6);
        behind("harm min (1 , 2)", 1, 16);
        behind("kind k1 ways", 1, 6);
        behind("grows9;", 1, 5);
        behind("grows 9x;", 1, 7);
        behind("grows 100x;", 2, 6);
    }

    private static void counts() {
        behind(kindsOf(5), 0, 0);
        behind(kindsOf(5) + "kind", 5, kindsOf(5).length());
        behind(kindsOf(5) + "kinds", 1, kindsOf(5).length());
        behind(KIND + menOf(8), 0, 0);
        behind(KIND + menOf(8) + " man", 5, (KIND + menOf(8)).length() + 1);
        behind(fieldsOf(6), 0, 0);
        behind(fieldsOf(6) + "field ?", 5, fieldsOf(6).length());
        behind("harm 1; harm 1;", 5, 8);
        behind("grows 1;".repeat(59), 0, 0);
        behind("grows 1;".repeat(59) + " \n ", 0, 0);
        for (String last : new String[] {"grows 1;", "?", "board", "xx"}) {
            behind("grows 1;".repeat(59) + " " + last, 5, 59 * 8 + 1);
        }
        GardenChess x = new GardenChess();
        Bench.due("board() of 60", Bench.board(x, HEAD + "grows 1;".repeat(59)), 60);
        Bench.due("board() of 1", Bench.board(x, HEAD), 1);
    }

    private static String kindsOf(int n) {
        StringBuilder text = new StringBuilder();
        for (int i = 0; i < n; i++) {
            text.append("kind k").append((char) ('a' + i)).append(" ways 1 reach 1 worth 1;");
        }
        return text.toString();
    }

    private static String menOf(int n) {
        StringBuilder text = new StringBuilder();
        for (int i = 0; i < n; i++) {
            text.append("man m").append((char) ('a' + i)).append(" is k of 0 at ");
            text.append(i % 3).append(' ').append(i / 3).append(';');
        }
        return text.toString();
    }

    private static String fieldsOf(int n) {
        StringBuilder text = new StringBuilder();
        for (int i = 0; i < n; i++) {
            text.append("field f").append((char) ('a' + i)).append(" at 1 1 bears 7;");
        }
        return text.toString();
    }

    /** A text that ends behind any word, number or sign ends too soon; a wrong sign is found there. */
    private static void everyPlace() {
        String[] whole = (HEAD.replace(";", " ;") + " kind k ways 3 reach 2 worth 9 crown ;"
            + " man a is k of 1 at 2 0 ; field f at 0 1 bears 90 ;"
            + " harm min ( taken * 2 , 7 ) + max ( ( off ) , day ) / check - 3 ; grows 4 ; sleepy 5 ;").split(" +");
        StringBuilder text = new StringBuilder();
        for (String piece : whole) {
            String ahead = text.toString();
            boolean ended = ahead.endsWith("; ");
            Bench.faulty(ahead, ended ? 0 : 1, ended ? Bench.NONE : ahead.length());
            Bench.faulty(ahead + "?", 1, ahead.length());
            Bench.faulty(ahead + "\u0000 ", 1, ahead.length());
            Bench.faulty(ahead + "\u00ff" + piece, 1, ahead.length());
            text.append(piece).append(' ');
        }
        GardenChess x = new GardenChess();
        Bench.due("board()", Bench.board(x, text.toString()), 7);
    }

    /** Where a word or a ; is left out, what stands behind it is found. */
    private static void missingWords() {
        String[] whole = (HEAD.replace(";", " ;") + " kind k ways 3 reach 2 worth 9 crown ; man a is k of 1 at 2 0 ;"
            + " field f at 0 1 bears 90 ; harm min ( taken , 7 ) ; grows 4 ; sleepy 5 ;").split(" +");
        String words = " by white black ways reach worth is of at bears , ; ";
        for (int left = 0; left < whole.length; left++) {
            if (words.contains(" " + whole[left] + " ")) {
                StringBuilder text = new StringBuilder();
                int place = 0;
                for (int i = 0; i < whole.length; i++) {
                    place = i == left ? text.length() : place;
                    text.append(i == left ? "" : whole[i] + " ");
                }
                Bench.faulty(text.toString(), 1, place);
            }
        }
    }

    /** What an older board told is told no more, however many were told since. */
    private static void nothingLeftOver() {
        String men = "kind k ways 2 reach 1 worth 5;man a is k of 0 at 0 0;man b is k of 1 at 1 0;field f at 0 0 bears 50;";
        GardenChess x = new GardenChess();
        for (int i = 0; i < 3; i++) {
            Bench.due("board()", Bench.board(x, HEAD + men + "harm 5;grows 1;sleepy 100;"), 8);
            x.chance(1);
            Bench.due("as told", x.field(0, 2), 46);
            Bench.due("with a FAULT", Bench.board(x, HEAD + men + "harm 9;grows 9;sleepy 99;x"), -1);
            x.chance(1);
            Bench.due("as told", x.field(0, 2), 42);
        }
        for (int i = 0; i < 3; i++) {
            Bench.due("board()", Bench.board(x, HEAD + men), 5);
            x.seed(seedDrawing0());
            Bench.due("no sleepy", x.chance(1), 0);
            Bench.due("no harm, no grows", x.field(0, 2), 50);
        }
        for (int i = 0; i < 3; i++) {
            Bench.due("board()", Bench.board(x, HEAD), 1);
            for (int what = 2; what <= 12; what++) {
                Bench.due("has(" + what + ")", x.has(what), what == 7 ? 1 : 0);
            }
        }
    }

    /** A seed whose first DRAW of 100 is 0: below any sleepy but 0. */
    private static int seedDrawing0() {
        int seed = 0;
        while ((1103515245L * seed + 12345L) % (1L << 31) / 64 % 100 != 0) {
            seed++;
        }
        return seed;
    }

    private static void staying() {
        GardenChess x = Bench.on(HEAD + KIND + "man a is k of 0 at 0 0;man b is k of 1 at 2 2;field f at 0 0 bears 50;grows 1;");
        x.play(0);
        Bench.tape(x, 0, 0, 9);
        x.see();
        Bench.due("board() with a FAULT", Bench.board(x, "board 2 by 2 white 1 black 1;kind"), Bench.NONE);
        Bench.due("fault(0)", x.fault(0), 1);
        Bench.due("fault(1)", x.fault(1), 33);
        Bench.due("fault(2)", x.fault(2), Bench.NONE);
        Bench.due("fault(-1)", x.fault(-1), Bench.NONE);
        int[] want = {3, 3, 1, 2, 1, 1, 1, 0, 0, 51, 1, 1, 1};
        for (int what = 0; what < want.length; what++) {
            Bench.due("has(" + what + ") behind a FAULT", x.has(what), want[what]);
        }
        Bench.due("man(0, 0)", x.man(0, 0), 1);
        Bench.due("undo()", x.undo(), true);
        Bench.due("feed behind a FAULT", x.feed(0, 0, 0, 0, 0), 20);
    }

    /** A board without a FAULT forgets what was; the seed stays. */
    private static void asAtFirst() {
        String text = HEAD + "kind k ways 3 reach 1 worth 1;man a is k of 0 at 0 0;man b is k of 1 at 2 2;"
            + "field f at 0 0 bears 50;sleepy 100;";
        GardenChess x = Bench.on(text);
        x.seed(77);
        x.chance(3);
        Bench.tape(x, 0, 0, 50);
        x.see();
        x.image();
        Bench.due("board() again", Bench.board(x, text), 6);
        int[] want = {3, 3, 1, 2, 1, 0, 0, 0, 0, 50, 0, 0, 0};
        for (int what = 0; what < want.length; what++) {
            Bench.due("has(" + what + ") of a new board", x.has(what), want[what]);
        }
        Bench.due("kept(0, 0)", x.kept(0, 0), Bench.NONE);
        Bench.due("undo()", x.undo(), false);
        Bench.due("fault(0)", x.fault(0), 0);
        Bench.due("fault(1)", x.fault(1), Bench.NONE);
        Bench.due("octet(1) of the image ahead", x.octet(1), 3);
        // 77 drawn on six times: the sleepy MOVE now is the seventh and eighth draw's.
        long seed = 77;
        for (int i = 0; i < 8; i++) {
            seed = (1103515245L * seed + 12345L) % (1L << 31);
        }
        int k = (int) (seed / 64 % 3);
        x.chance(1);
        int[] column = {1, 0, 1};
        int[] row = {0, 1, 1};
        Bench.due("kept(0, 2)", x.kept(0, 2), column[k]);
        Bench.due("kept(0, 3)", x.kept(0, 3), row[k]);
    }
}
