/** Promises 23 to 25: SEEN, which MOVE it was, REACHED. */
public final class WhichGameTest {
    private static final String BOARD = "board 3 by 3 white 1 black 1;kind kr ways 1 reach 2 worth 5;kind kc ways 3 reach 1 worth 9 crown;"
        + "man r is kr of 0 at 0 0;man c is kc of 1 at 2 1;field f at 0 0 bears 50;field g at 2 2 bears 300;harm off;";

    public static void main(String[] args) {
        seeing();
        none();
        staying();
        reached();
        noBoards();
        Bench.close("WhichGameTest");
    }

    private static int see(GardenChess x, int... bytes) {
        Bench.tape(x, bytes);
        return x.see();
    }

    private static void played(GardenChess x, int many, int first, int last) {
        Bench.due("played(0)", x.played(0), many);
        Bench.due("played(1)", x.played(1), first);
        Bench.due("played(2)", x.played(2), last);
    }

    private static void seeing() {
        GardenChess x = Bench.on(BOARD);
        // MOVES: 1 0, 2 0, 0 1, 0 2; off of f 1, 2, 1, 2; off of g 2, 2, 2, 2.
        played(x, 4, 0, 3);
        Bench.due("see()", see(x, 0, 0, 49), 1);
        played(x, 2, 0, 2);
        Bench.due("has(11)", x.has(11), 1);
        Bench.due("see()", see(x, 0, 0, 48, 1, 1, 42), 2);
        played(x, 2, 1, 3);
        Bench.due("has(11)", x.has(11), 2);
        Bench.due("see()", see(x, 0, 0, 48, 0, 0, 49), 2);
        played(x, 0, -1, -1);
        int[] rows = new int[48];
        for (int i = 0; i < 48; i += 3) {
            rows[i + 2] = 48;
        }
        Bench.due("see() 16 rows", see(x, rows), 16);
        played(x, 2, 1, 3);
        Bench.due("played(3)", x.played(3), -1);
        Bench.due("played(-1)", x.played(-1), -1);
    }

    private static void none() {
        GardenChess x = Bench.on(BOARD);
        Bench.due("see()", see(x, 0, 0, 49), 1);
        Bench.due("see() of nothing", see(x), -1);
        Bench.due("see() of two bytes", see(x, 0, 0), -1);
        Bench.due("see() of four bytes", see(x, 0, 0, 49, 0), -1);
        Bench.due("see() of a third FIELD", see(x, 2, 0, 49), -1);
        Bench.due("see() of a wrong last row", see(x, 0, 0, 48, 255, 0, 49), -1);
        Bench.due("see() of 17 rows", see(x, new int[51]), -1);
        Bench.due("status(1)", x.status(1), 6);
        played(x, 2, 0, 2);
        Bench.due("the tape goes", x.feed(0, 0, 0, 0, 0), 20);
    }

    private static void staying() {
        GardenChess x = Bench.on(BOARD);
        see(x, 0, 0, 48);
        x.play(0);
        x.undo();
        int[] image = Bench.image(x);
        Bench.tape(x, image);
        Bench.due("on()", x.on(), true);
        Bench.due("SEEN stays", x.has(11), 1);
        played(x, 2, 1, 3);
        Bench.board(x, BOARD);
        Bench.due("SEEN goes with a board", x.has(11), 0);
        played(x, 4, 0, 3);
    }

    private static int reach(GardenChess x, int n, int... bytes) {
        Bench.tape(x, bytes);
        return x.reached(n);
    }

    private static void reached() {
        GardenChess x = Bench.on(BOARD);
        Bench.due("now", reach(x, 0, 0, 0, 2, 1), 1);
        Bench.due("not now", reach(x, 0, 1, 0, 2, 1), 0);
        Bench.due("by one", reach(x, 1, 1, 0, 2, 1), 1);
        Bench.due("not by one", reach(x, 1, 1, 1, 2, 1), 0);
        Bench.due("not the same by one", reach(x, 1, 0, 0, 2, 1), 0);
        Bench.due("by two", reach(x, 2, 1, 0, 2, 2), 1);
        // White to 1 1 by 1 0 or 0 1 while the crown goes from 2 1 to 2 2 (it is there at the end).
        Bench.due("by three", reach(x, 3, 1, 1, 2, 2), 2);
        // Black takes the rook at 1 0 or at 2 0; by the third MOVE white has none.
        Bench.due("TAKEN by two", reach(x, 2, 255, 255, 1, 0), 1);
        Bench.due("TAKEN, and no MOVE more", reach(x, 3, 255, 255, 1, 0), 0);
        Bench.due("a CROWN TAKEN by three", reach(x, 3, 2, 2, 255, 255) > 0, true);
        Bench.due("nothing refused", x.status(1), 0);
        Bench.due("two on one place", reach(x, 1, 1, 1, 1, 1), -1);
        Bench.due("no such column", reach(x, 1, 3, 0, 1, 1), -1);
        Bench.due("no such row", reach(x, 1, 0, 3, 1, 1), -1);
        Bench.due("half TAKEN", reach(x, 1, 255, 0, 1, 1), -1);
        Bench.due("half TAKEN", reach(x, 1, 0, 255, 1, 1), -1);
        Bench.due("a byte too few", reach(x, 1, 1, 0, 2), -1);
        Bench.due("a byte too many", reach(x, 1, 1, 0, 2, 1, 0), -1);
        Bench.due("n = -1", reach(x, -1, 0, 0, 2, 1), -1);
        Bench.due("n = 4", reach(x, 4, 0, 0, 2, 1), -1);
        Bench.due("status(1)", x.status(1), 9);
        Bench.due("the tape goes", x.feed(0, 0, 0, 0, 0), 20);
        Bench.due("nothing came of it", x.at(0, 0), 0);
        Bench.due("nothing came of it", x.has(6), 0);
    }

    private static void noBoards() {
        GardenChess x = new GardenChess();
        Bench.due("reached without a board", reach(x, 0), -1);
        Bench.due("see without a board", see(x, 0, 0, 1), -1);
        Bench.due("status(1)", x.status(1), 2);
        GardenChess y = Bench.on("board 2 by 2 white 1 black 1;");
        Bench.due("without MEN", reach(y, 0), 1);
        Bench.due("without MEN", reach(y, 1), 0);
        Bench.due("see without FIELDS", see(y, 0, 0, 1), -1);
        played(y, 0, -1, -1);
    }
}
