/** Promises 6 to 11: what is told of a board, its KINDS, MEN and FIELDS. */
public final class TellingTest {
    private static final String BOARD = "board 4 by 5 white 2 black 1;kind abcdef ways 1 reach 4 worth 99;"
        + "kind z ways 2 reach 3 worth 0 crown;kind colt ways 4 reach 2 worth 7;kind q ways 3 reach 2 worth 20;"
        + "man wa is abcdef of 0 at 0 0;man wz is z of 0 at 3 4;man bc is colt of 1 at 1 2;man bq is q of 1 at 0 3;"
        + "field yz at 3 4 bears 999;field f at 0 1 bears 1;grows 3;grows 2;";
    private static GardenChess x;

    public static void main(String[] args) {
        x = Bench.on(BOARD);
        counts();
        letters();
        kinds();
        men();
        fields();
        places();
        wrongOnes();
        withoutMen();
        Bench.close("TellingTest");
    }

    private static void counts() {
        int[] want = {4, 5, 4, 4, 2, 0, 0, 0, 0, 1000, 0, 0, 0, -1};
        for (int what = 0; what < want.length; what++) {
            Bench.due("has(" + what + ")", x.has(what), want[what]);
        }
        Bench.due("has(-1)", x.has(-1), -1);
        x.days(1);
        Bench.due("the colt (7) was taken, and the last grows counts", x.field(1, 2), 2);
        Bench.due("has(5)", x.has(5), 1);
        Bench.due("has(6)", x.has(6), 1);
        Bench.due("has(10)", x.has(10), 1);
        Bench.due("has(12)", x.has(12), 1);
        x.undo();
    }

    private static void letters() {
        for (int k = 0; k < 6; k++) {
            Bench.due("letter(0, 0, " + k + ")", x.letter(0, 0, k), k + 1);
            Bench.due("letter(0, 1, " + k + ")", x.letter(0, 1, k), k == 0 ? 26 : 0);
        }
        Bench.due("letter(1, 3, 0)", x.letter(1, 3, 0), 2);
        Bench.due("letter(1, 3, 1)", x.letter(1, 3, 1), 17);
        Bench.due("letter(1, 3, 2)", x.letter(1, 3, 2), 0);
        Bench.due("letter(2, 0, 0)", x.letter(2, 0, 0), 25);
        Bench.due("letter(2, 0, 1)", x.letter(2, 0, 1), 26);
        Bench.due("letter(2, 1, 0)", x.letter(2, 1, 0), 6);
    }

    private static void kinds() {
        int[][] want = {{1, 4, 99, 0, -1}, {2, 3, 0, 1, -1}, {4, 2, 7, 0, -1}, {3, 2, 20, 0, -1}};
        for (int kind = 0; kind < want.length; kind++) {
            for (int what = 0; what < 5; what++) {
                Bench.due("kind(" + kind + ", " + what + ")", x.kind(kind, what), want[kind][what]);
            }
        }
    }

    private static void men() {
        // The rook at 0 0 goes three right, and down to the queen at 0 3. The bishop at 3 4 goes
        // aslant to 2 3, and on to 1 2, taking the colt. The colt at 1 2 leaps to six places, of
        // which one is his rook's foe. The queen at 0 3 has no way over the colt at 1 2.
        int[][] want = {{0, 0, 0, 0, 6, -1}, {3, 4, 1, 0, 2, -1}, {1, 2, 2, 1, 6, -1}, {0, 3, 3, 1, 6, -1}};
        for (int man = 0; man < want.length; man++) {
            for (int what = 0; what < 6; what++) {
                Bench.due("man(" + man + ", " + what + ")", x.man(man, what), want[man][what]);
            }
        }
        x.play(6);
        Bench.due("the bishop took the colt", x.man(1, 0), 1);
        Bench.due("column of one TAKEN", x.man(2, 0), -1);
        Bench.due("row of one TAKEN", x.man(2, 1), -1);
        Bench.due("KIND of one TAKEN", x.man(2, 2), 2);
        Bench.due("SIDE of one TAKEN", x.man(2, 3), 1);
        Bench.due("MOVES of one TAKEN", x.man(2, 4), 0);
        Bench.due("has(3)", x.has(3), 4);
        Bench.due("has(8)", x.has(8), 1);
        Bench.due("at(1, 2)", x.at(1, 2), 1);
        Bench.due("at(3, 4)", x.at(3, 4), -1);
        x.undo();
    }

    private static void fields() {
        int[][] want = {{3, 4, 999, -1}, {0, 1, 1, -1}};
        for (int field = 0; field < want.length; field++) {
            for (int what = 0; what < 4; what++) {
                Bench.due("field(" + field + ", " + what + ")", x.field(field, what), want[field][what]);
            }
        }
    }

    private static void places() {
        Bench.due("at(0, 0)", x.at(0, 0), 0);
        Bench.due("at(3, 4)", x.at(3, 4), 1);
        Bench.due("at(1, 2)", x.at(1, 2), 2);
        Bench.due("at(0, 3)", x.at(0, 3), 3);
        Bench.due("at(2, 2)", x.at(2, 2), -1);
        Bench.due("at(4, 0)", x.at(4, 0), -1);
        Bench.due("at(0, 5)", x.at(0, 5), -1);
        Bench.due("at(-1, 0)", x.at(-1, 0), -1);
        Bench.due("at(5, -1)", x.at(5, -1), -1);
        Bench.due("at(greatest)", x.at(Integer.MAX_VALUE, Integer.MAX_VALUE), -1);
    }

    private static void wrongOnes() {
        int[] far = {-1, 4, 5, 8, Integer.MAX_VALUE, Integer.MIN_VALUE};
        for (int n : far) {
            Bench.due("letter of none " + n, x.letter(0, n, 0), -1);
            Bench.due("letter of none " + n, x.letter(1, n, 0), -1);
            Bench.due("letter of none " + n, x.letter(2, n, 0), -1);
            Bench.due("letter of no sort " + n, x.letter(n, 0, 0), -1);
            Bench.due("kind of none " + n, x.kind(n, 0), -1);
            Bench.due("kind of no what " + n, x.kind(0, n), -1);
            Bench.due("man of none " + n, x.man(n, 0), -1);
            Bench.due("field of none " + n, x.field(n, 0), -1);
            Bench.due("field of no what " + n, x.field(0, n), -1);
        }
        Bench.due("letter 6", x.letter(0, 0, 6), -1);
        Bench.due("letter -1", x.letter(0, 0, -1), -1);
        Bench.due("letter of no sort", x.letter(3, 0, 0), -1);
        Bench.due("letter of the third FIELD", x.letter(2, 2, 0), -1);
        Bench.due("man -1", x.man(0, -1), -1);
        Bench.due("man least", x.man(0, Integer.MIN_VALUE), -1);
    }

    /** Without MEN the SIDE to move has no MOVE. */
    private static void withoutMen() {
        x = Bench.on("board 2 by 2 white 1 black 1;field f at 0 0 bears 5;grows 1;");
        Bench.due("has(7)", x.has(7), 1);
        Bench.due("option(0, 0)", x.option(0, 0), -1);
        Bench.due("days(3)", x.days(3), 0);
        Bench.due("field(0, 2)", x.field(0, 2), 8);
        Bench.due("has(5)", x.has(5), 3);
        Bench.due("has(6)", x.has(6), 1);
        Bench.due("has(10)", x.has(10), 0);
        Bench.due("chance(2)", x.chance(2), 0);
        Bench.due("balance(0)", x.balance(0), 0);
        Bench.due("value(3)", x.value(3), 0);
        Bench.due("best(1)", x.best(1), -1);
    }
}
