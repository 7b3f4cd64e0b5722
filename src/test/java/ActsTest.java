/** Promises 13 and 26 to 31: what is KEPT, and ACTS. */
public final class ActsTest {
    private static final String BOARD = "board 3 by 3 white 1 black 1;kind kr ways 1 reach 2 worth 5;kind kp ways 3 reach 1 worth 2;"
        + "man r is kr of 0 at 0 0;man p is kp of 1 at 2 0;man q is kp of 1 at 2 2;field f at 0 0 bears 50;grows 1;sleepy 40;";

    /** Two that go aslant on unlike places: they never meet, so the GAME is never OVER. */
    private static final String LONG = "board 3 by 3 white 1 black 1;kind kb ways 2 reach 1 worth 5;"
        + "man w is kb of 0 at 0 0;man b is kb of 1 at 1 0;field f at 0 0 bears 50;grows 1;";

    public static void main(String[] args) {
        playing();
        tending();
        days();
        chances();
        undoing();
        keptAndUndone();
        seeds();
        lastDay();
        withoutBoard();
        Bench.close("ActsTest");
    }

    private static void state(GardenChess x, String when, int... want) {
        int[] what = {5, 6, 9, 10, 12};
        for (int i = 0; i < want.length; i++) {
            Bench.due("has(" + what[i] + ") " + when, x.has(what[i]), want[i]);
        }
    }

    private static void kept(GardenChess x, int k, int... want) {
        for (int what = 0; what < 5; what++) {
            Bench.due("kept(" + k + ", " + what + ")", x.kept(k, what), want[what]);
        }
        Bench.due("kept(" + k + ", 5)", x.kept(k, 5), -1);
        Bench.due("kept(" + k + ", -1)", x.kept(k, -1), -1);
    }

    private static void playing() {
        GardenChess x = Bench.on(BOARD);
        Bench.due("play(4)", x.play(4), -1);
        Bench.due("play(-1)", x.play(-1), -1);
        Bench.due("play(greatest)", x.play(Integer.MAX_VALUE), -1);
        Bench.due("status(2)", x.status(2), 3);
        state(x, "at first", 0, 0, 50, 0, 0);
        Bench.due("play(1) takes p", x.play(1), 1);
        state(x, "behind play(1)", 1, 1, 49, 1, 1);
        Bench.due("play(0)", x.play(0), 255);
        state(x, "behind play(0)", 2, 0, 50, 2, 2);
        kept(x, 0, 0, 0, 2, 0, 1);
        kept(x, 1, 1, 2, 1, 1, 255);
        Bench.due("kept(2, 0)", x.kept(2, 0), -1);
        Bench.due("kept(-1, 0)", x.kept(-1, 0), -1);
    }

    private static void tending() {
        GardenChess x = Bench.on(BOARD);
        Bench.due("tend(0, 99)", x.tend(0, 99), 149);
        Bench.due("tend(0, 1)", x.tend(0, 1), 150);
        state(x, "behind tend", 0, 0, 150, 0, 2);
        for (int i = 0; i < 9; i++) {
            x.tend(0, 99);
        }
        Bench.due("999 at most", x.field(0, 2), 999);
        Bench.due("tend at 999", x.tend(0, 5), 999);
        Bench.due("it is an ACT all the same", x.has(12), 12);
        Bench.due("tend(0, 0)", x.tend(0, 0), -1);
        Bench.due("tend(0, 100)", x.tend(0, 100), -1);
        Bench.due("tend(0, -1)", x.tend(0, -1), -1);
        Bench.due("tend(1, 1)", x.tend(1, 1), -1);
        Bench.due("tend(-1, 1)", x.tend(-1, 1), -1);
        Bench.due("status(2)", x.status(2), 5);
        Bench.due("has(12)", x.has(12), 12);
    }

    private static void days() {
        GardenChess x = Bench.on(BOARD);
        Bench.due("days(1)", x.days(1), 1);
        kept(x, 0, 0, 0, 2, 0, 1);
        GardenChess z = Bench.on(LONG);
        Bench.due("days(1)", z.days(1), 1);
        Bench.due("days(30)", z.days(30), 30);
        state(z, "behind days", 31, 1, 81, 31, 2);
        Bench.due("days(0)", z.days(0), -1);
        Bench.due("days(31)", z.days(31), -1);
        Bench.due("days(-1)", z.days(-1), -1);
        Bench.due("status(3)", z.status(3), 3);
        z.days(20);
        Bench.due("the last 40", z.has(10), 40);
        Bench.due("the oldest told", z.kept(0, 0), 11);
        Bench.due("the last told", z.kept(39, 0), 50);
        Bench.due("no more", z.kept(40, 0), -1);
        GardenChess y = Bench.on("board 3 by 2 white 1 black 1;kind kr ways 1 reach 2 worth 5;kind kc ways 1 reach 1 worth 2 crown;"
            + "man r is kr of 0 at 0 0;man c is kc of 1 at 2 0;field f at 0 0 bears 50;grows 10;");
        Bench.due("MOVES until it is OVER", y.days(5), 1);
        state(y, "behind days OVER", 5, 1, 98, 1, 1);
    }

    private static void chances() {
        GardenChess x = Bench.on("board 3 by 3 white 1 black 1;kind kr ways 1 reach 1 worth 5;man r is kr of 0 at 0 0;"
            + "man p is kr of 1 at 2 2;field f at 0 0 bears 50;sleepy 100;");
        long seed = 12345;
        x.seed(12345);
        seed = next(next(seed));
        int k = (int) (seed / 64 % 2);
        Bench.due("chance(1)", x.chance(1), 1);
        kept(x, 0, 0, 0, k == 0 ? 1 : 0, k == 0 ? 0 : 1, 255);
        Bench.due("all are sleepy", x.chance(30), 30);
        Bench.due("one ACT", x.has(12), 2);
        GardenChess y = Bench.on(LONG);
        Bench.due("none is sleepy", y.chance(30), 0);
        Bench.due("MOVES are kept", y.has(10), 30);
        GardenChess z = Bench.on(LONG + "sleepy 50;");
        z.seed(9);
        int sleeps = 0;
        seed = 9;
        for (int i = 0; i < 30; i++) {
            seed = next(seed);
            if (seed / 64 % 100 < 50) {
                sleeps++;
                seed = next(seed);
            }
        }
        Bench.due("sleepy by half", z.chance(30), sleeps);
        Bench.due("chance(0)", x.chance(0), -1);
        Bench.due("chance(31)", x.chance(31), -1);
        Bench.due("status(3)", x.status(3), 2);
        GardenChess over = Bench.on("board 2 by 2 white 1 black 1;sleepy 100;field f at 0 0 bears 1;grows 2;");
        Bench.due("OVER: no DRAW", over.chance(4), 0);
        Bench.due("OVER: it grows", over.field(0, 2), 9);
        drawsStay(over);
    }

    /** Where the GAME was OVER nothing was drawn: the seed is 1 as at first. */
    private static void drawsStay(GardenChess x) {
        Bench.board(x, "board 5 by 5 white 1 black 1;kind kr ways 3 reach 4 worth 5;man r is kr of 0 at 2 2;sleepy 100;");
        x.chance(1);
        int k = (int) (next(next(1)) / 64 % 16);
        GardenChess y = Bench.on("board 5 by 5 white 1 black 1;kind kr ways 3 reach 4 worth 5;man r is kr of 0 at 2 2;");
        Bench.due("column by the seed 1", x.kept(0, 2), y.option(k, 1));
        Bench.due("row by the seed 1", x.kept(0, 3), y.option(k, 2));
    }

    private static long next(long seed) {
        return (1103515245L * seed + 12345L) % (1L << 31);
    }

    private static void undoing() {
        GardenChess x = Bench.on(BOARD);
        Bench.due("undo() at first", x.undo(), false);
        x.play(1);
        x.tend(0, 9);
        x.days(3);
        x.chance(4);
        Bench.due("has(12)", x.has(12), 4);
        int[] sizes = {5, 6, 8, 9, 10, 12};
        int[][] want = {{4, 0, -1, -1, 4, 3}, {1, 1, 1, 58, 1, 2}, {1, 1, 1, 49, 1, 1}, {0, 0, 0, 50, 0, 0}};
        for (int i = 0; i < 4; i++) {
            Bench.due("undo()", x.undo(), true);
            for (int j = 0; j < sizes.length; j++) {
                if (want[i][j] >= 0) {
                    Bench.due("has(" + sizes[j] + ") behind undo " + i, x.has(sizes[j]), want[i][j]);
                }
            }
        }
        Bench.due("at(2, 0)", x.at(2, 0), 1);
        Bench.due("at(0, 0)", x.at(0, 0), 0);
        Bench.due("undo() of all", x.undo(), false);
        Bench.due("status(4)", x.status(4), 2);
        for (int i = 0; i < 25; i++) {
            x.tend(0, 1);
        }
        Bench.due("20 at most", x.has(12), 20);
        int undone = 0;
        while (undone < 30 && x.undo()) {
            undone++;
        }
        Bench.due("undone", undone, 20);
        Bench.due("five stay", x.field(0, 2), 55);
    }

    /** KEPT is each MOVE; only what is told of it ends with 40, so what is undone brings older ones back. */
    private static void keptAndUndone() {
        GardenChess x = Bench.on(LONG);
        x.days(30);
        x.days(30);
        Bench.due("kept(0, 0)", x.kept(0, 0), 20);
        x.undo();
        Bench.due("has(10)", x.has(10), 30);
        Bench.due("kept(0, 0)", x.kept(0, 0), 0);
        x.play(0);
        Bench.due("kept(30, 0)", x.kept(30, 0), 30);
    }

    private static void seeds() {
        GardenChess x = Bench.on(BOARD);
        Bench.due("seed(-1)", x.seed(-1), false);
        Bench.due("seed(least)", x.seed(Integer.MIN_VALUE), false);
        Bench.due("status(5)", x.status(5), 2);
        Bench.due("seed(0)", x.seed(0), true);
        Bench.due("seed(greatest)", x.seed(Integer.MAX_VALUE), true);
        // The seed stays when an ACT is undone, so the same ACT goes on by other draws.
        GardenChess y = Bench.on("board 5 by 5 white 1 black 1;kind kr ways 3 reach 4 worth 5;man r is kr of 0 at 2 2;sleepy 100;");
        GardenChess z = Bench.on("board 5 by 5 white 1 black 1;kind kr ways 3 reach 4 worth 5;man r is kr of 0 at 2 2;sleepy 100;");
        y.seed(Integer.MAX_VALUE);
        long seed = Integer.MAX_VALUE;
        for (int i = 0; i < 8; i++) {
            seed = next(next(seed));
            int k = (int) (seed / 64 % 16);
            y.chance(1);
            Bench.due("column", y.kept(0, 2), z.option(k, 1));
            Bench.due("row", y.kept(0, 3), z.option(k, 2));
            y.undo();
        }
    }

    private static void lastDay() {
        GardenChess x = Bench.on(LONG);
        int[] image = Bench.image(x);
        image[0] = 3;
        image[1] = 997 - 768;
        Bench.tape(x, Bench.marked(image));
        Bench.due("on()", x.on(), true);
        Bench.due("days(3) beyond DAY 999", x.days(3), -1);
        Bench.due("chance(3) beyond DAY 999", x.chance(3), -1);
        Bench.due("status(3)", x.status(3), 2);
        Bench.due("has(5)", x.has(5), 997);
        Bench.due("has(12)", x.has(12), 0);
        Bench.due("days(2)", x.days(2), 2);
        Bench.due("has(5)", x.has(5), 999);
        Bench.due("play(0) beyond DAY 999", x.play(0), -1);
        Bench.due("status(2)", x.status(2), 1);
        Bench.due("days(1) beyond DAY 999", x.days(1), -1);
        Bench.due("option(0, 0) is told all the same", x.option(0, 0), 0);
        Bench.due("tend(0, 1)", x.tend(0, 1) > 0, true);
        x.undo();
        x.undo();
        Bench.due("play(0) on DAY 997", x.play(0), 255);
        Bench.due("play(0) on DAY 998", x.play(0), 255);
        Bench.due("kept(1, 0)", x.kept(1, 0), 998);
    }

    private static void withoutBoard() {
        GardenChess x = new GardenChess();
        Bench.due("play(0)", x.play(0), -1);
        Bench.due("tend(0, 1)", x.tend(0, 1), -1);
        Bench.due("days(1)", x.days(1), -1);
        Bench.due("chance(1)", x.chance(1), -1);
        Bench.due("seed(5)", x.seed(5), true);
        Bench.due("status(2)", x.status(2), 2);
        Bench.due("status(3)", x.status(3), 2);
        Bench.due("has(12)", x.has(12), 0);
    }
}
