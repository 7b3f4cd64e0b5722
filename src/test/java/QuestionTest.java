/** Promise 32: QUESTIONS, their answers and FAULTS. */
public final class QuestionTest {
    private static final String BOARD = "board 4 by 3 white 1 black 1;kind kr ways 1 reach 4 worth 5;kind kn ways 4 reach 2 worth 3;"
        + "kind kc ways 3 reach 1 worth 9 crown;man a is kr of 0 at 0 0;man b is kn of 0 at 3 0;man c is kc of 1 at 1 2;"
        + "man d is kr of 1 at 3 2;field f at 0 0 bears 5;field g at 3 1 bears 6;";
    private static GardenChess x;

    public static void main(String[] args) {
        x = Bench.on(BOARD);
        facts();
        tests();
        sums();
        edges();
        faults();
        open();
        everyPlace();
        taken();
        noMen();
        withoutBoard();
        Bench.close("QuestionTest");
    }

    private static void asks(String question, long want) {
        Bench.due(question, Bench.ask(x, question), want);
        Bench.due(question + ": fault(0)", x.fault(0), 0);
        Bench.due(question + ": fault(1)", x.fault(1), -1);
    }

    private static void facts() {
        asks("total number", 6);
        asks("total column", 7);
        asks("total row", 4);
        asks("total side", 2);
        asks("total worth", 22);
        asks("total reach", 11);
        // Rook at 0 0: two right, two down. Colt at 3 0: 1 1 and 2 2. Crown at 1 2: five. Rook at 3 2: one left, two up.
        asks("total moves", 4 + 2 + 5 + 3);
        asks("most moves", 5);
        asks("least moves", 2);
        asks("total day", 0);
        asks("total off 0", 0 + 3 + 2 + 3);
        asks("total off 1", 3 + 1 + 2 + 1);
        asks("total off 2", 0);
        asks("total off (0-1)", 0);
        asks("total off off 0", 0 + 0 + 0 + 0);
        asks("most off side", 3);
        asks("total off 1 + 1", 11);
        asks("total off 1*2", 14);
        x.days(1);
        asks("total day", 4);
        x.undo();
    }

    private static void tests() {
        asks("first all", 0);
        asks("last all", 3);
        asks("often all", 4);
        asks("first side=1", 2);
        asks("last side=0", 1);
        asks("often side<1", 2);
        asks("often worth>4", 3);
        asks("first worth>9", -1);
        asks("last worth>9", -1);
        asks("often worth>9", 0);
        asks("first not all", -1);
        asks("often not not all", 4);
        asks("often not side=0 and worth=5", 1);
        asks("often not [side=0 and worth=5]", 3);
        asks("often side=0 or side=1 and worth=9", 3);
        asks("often [side=0 or side=1] and worth=9", 1);
        asks("often side=0 and worth=5 or side=1 and worth=9", 2);
        asks("often(number+1)*2>5", 2);
        asks("often min(column,row)=0", 2);
        asks("last max(column , row) = 2", 2);
        asks("often 1=1", 4);
        asks("often 1<1 or 1>1", 0);
    }

    private static void sums() {
        asks("total 1", 4);
        asks("total 2+3*4", 56);
        asks("most 0-number", 0);
        asks("least 0-number", -3);
        asks("total 0-1", -4);
        asks("least (0-7)/2", -4);
        asks("most 7/0", 0);
        asks("most 9999*9999", 1000000);
        asks("total 9999*9999", 4000000);
        asks("least 0-9999*9999-9999", -1000000);
        asks("total\n1\n", 4);
        asks(" total 1 ", 4);
        asks("total 0001", 4);
    }

    private static void edges() {
        asks("first not not not not not not all", 0);
        asks("first [[[[[[all]]]]]]", 0);
        asks("total ((((((1))))))", 4);
        asks("total off off off off off off 0", 0);
        asks("first not [not [(off 0)=0]]", 0);
        asks("total (1)+(1)+(1)+(1)+(1)+(1)+(1)", 28);
        asks("often not all or not all or not all or not all or not all or not all or not all or all", 4);
        asks("total off 1+off 1+off 1+off 1+off 1+off 1+off 1", 49);
    }

    private static void faulty(String question, int fault, int place) {
        Bench.faultyQuestion(x, question, fault, place);
    }

    private static void faults() {
        faulty("", 1, 0);
        faulty("  ", 1, 2);
        faulty("first", 1, 5);
        faulty("firsts all", 1, 0);
        faulty(" any all", 1, 1);
        faulty("all", 1, 0);
        faulty("number", 1, 0);
        faulty("often", 1, 5);
        faulty("often 1", 1, 7);
        faulty("often 1 <", 1, 9);
        faulty("often 1 < 2 < 3", 1, 12);
        faulty("often (1 < 2)", 1, 9);
        faulty("often [1]", 1, 8);
        faulty("often all;", 1, 9);
        faulty("often all all", 1, 10);
        faulty("often all or", 1, 12);
        faulty("often all x", 1, 10);
        faulty("often x", 1, 6);
        faulty("often taken=1", 1, 6);
        faulty("often check=1", 1, 6);
        faulty("often crown=1", 1, 6);
        faulty("often f=1", 1, 6);
        faulty("often [all", 1, 10);
        faulty("often all]", 1, 9);
        faulty("often [all)", 1, 10);
        faulty("often and all", 1, 6);
        faulty("often not", 1, 9);
        faulty("often off=1", 1, 9);
        faulty("often off0=1", 1, 9);
        faulty("often 1=1or all", 1, 9);
        faulty("often 12345=1", 1, 10);
        faulty("total", 1, 5);
        faulty("total all", 1, 6);
        faulty("total 1 = 1", 1, 8);
        faulty("total 1 2", 1, 8);
        faulty("total -1", 1, 6);
        faulty("total min(1)", 1, 11);
        faulty("total min 1", 1, 10);
        faulty("total min", 1, 9);
        faulty("total max+1", 1, 9);
        faulty("total 1,", 1, 7);
        faulty("total numbers", 1, 6);
        faulty("total Number", 1, 6);
        faulty("total\t1", 1, 5);
        faulty("most not all", 1, 5);
        Bench.due("no refusal is counted", x.status(1), 0);
    }

    private static void open() {
        faulty("first not not not not not not not all", 4, 30);
        faulty("first [[[[[[[all]]]]]]]", 4, 12);
        faulty("total (((((((1)))))))", 4, 12);
        faulty("total off off off off off off off 0", 4, 30);
        faulty("first not [not [(off (off 0", 4, 21);
        faulty("first not [not [(off min(0", 4, 24);
        faulty("first not not not not not not (1)=1", 4, 30);
        faulty("total ((((((off 1))))))", 4, 12);
        faulty("total ((((((1(", 1, 13);
        faulty("first [[[[[[(1)=1]]]]]]", 4, 12);
    }

    /** A question that ends behind any piece but its last ends too soon; a wrong sign is found there. */
    private static void everyPlace() {
        String[] whole = "often [ not number * 2 + off ( 1 ) < min ( 3 , worth ) or all ] and all".split(" ");
        StringBuilder text = new StringBuilder();
        for (String piece : whole) {
            String ahead = text.toString();
            boolean ended = ahead.endsWith("] ");
            faulty(ahead, ended ? 0 : 1, ended ? -1 : ahead.length());
            faulty(ahead + "?", 1, ahead.length());
            faulty(ahead + "\u00e9", 1, ahead.length());
            faulty(ahead + "board", 1, ahead.length());
            text.append(piece).append(' ');
        }
        asks(text.toString(), 4);
    }

    private static void taken() {
        // The rook at 0 0 goes on to 0 2, and black's crown takes it.
        x.play(3);
        x.play(0);
        Bench.due("play", x.has(8) <= 1, true);
        x.undo();
        int k = 0;
        while (k < 30 && x.option(k, 3) != 0) {
            k++;
        }
        Bench.due("takes", x.play(k), 0);
        asks("first all", 1);
        asks("often all", 3);
        asks("total number", 6);
        asks("least number", 1);
        x.undo();
        x.undo();
    }

    private static void noMen() {
        x = Bench.on("board 2 by 2 white 1 black 1;");
        asks("first all", -1);
        asks("last all", -1);
        asks("often all", 0);
        asks("total 5", 0);
        asks("most 5", 0);
        asks("least 5", 0);
    }

    /** Without a board the tape goes, and nothing else happens. */
    private static void withoutBoard() {
        x = new GardenChess();
        Bench.due("ask()", Bench.ask(x, "often all"), Bench.NOTHING);
        Bench.due("fault(0)", x.fault(0), 0);
        Bench.due("ask()", Bench.ask(x, "oft"), Bench.NOTHING);
        Bench.due("fault(0)", x.fault(0), 0);
        Bench.due("the tape goes", x.feed(0, 0, 0, 0, 0), 20);
        x.end(0);
        Bench.board(x, "board 9");
        Bench.due("fault(0) of board()", x.fault(0), 2);
        Bench.ask(x, "often all");
        Bench.due("fault(0) of board() still", x.fault(0), 2);
        Bench.due("fault(1) of board() still", x.fault(1), 6);
    }
}
