/** Promises 12 and 14 to 17: MOVES and their order, CHECK, BALANCE, VALUE, the BEST MOVE, FORCED. */
public final class PlayTest {
    public static void main(String[] args) {
        order();
        leaps();
        ways();
        check();
        over();
        values();
        firstOfLike();
        forcedByTwo();
        notForced();
        wrongOnes();
        Bench.close("PlayTest");
    }

    private static void moves(GardenChess x, int... rows) {
        for (int k = 0; k * 3 < rows.length; k++) {
            for (int what = 0; what < 3; what++) {
                Bench.due("option(" + k + ", " + what + ")", x.option(k, what), rows[3 * k + what]);
            }
        }
        Bench.due("option behind the last", x.option(rows.length / 3, 0), -1);
    }

    private static void order() {
        GardenChess x = Bench.on("board 3 by 3 white 1 black 1;kind kr ways 1 reach 2 worth 5;kind kp ways 3 reach 1 worth 1;"
            + "man b is kp of 1 at 1 0;man w is kr of 0 at 1 1;man v is kp of 0 at 2 2;");
        // The rook: row 0 the man to take, row 1 both sides, row 2; then the other man.
        moves(x, 1, 1, 0, 1, 0, 1, 1, 2, 1, 1, 1, 2, 2, 2, 1, 2, 1, 2);
        Bench.due("option(0, 3)", x.option(0, 3), 0);
        Bench.due("option(1, 3)", x.option(1, 3), 255);
        Bench.due("option(0, 4)", x.option(0, 4), 0);
        x.play(0);
        moves(x);
        x.undo();
        x.play(5);
        moves(x, 0, 0, 0, 0, 2, 0, 0, 0, 1, 0, 1, 1, 0, 2, 1);
    }

    private static void leaps() {
        GardenChess x = Bench.on("board 5 by 5 white 1 black 1;kind kn ways 4 reach 1 worth 3;kind kp ways 3 reach 4 worth 1;"
            + "man n is kn of 0 at 2 2;man b is kp of 0 at 1 0;man c is kp of 1 at 3 0;man d is kp of 1 at 2 1;man e is kp of 1 at 3 2;");
        Bench.due("MOVES of one who leaps", x.man(0, 4), 7);
        int[] to = {3, 0, 0, 1, 4, 1, 0, 3, 4, 3, 1, 4, 3, 4};
        for (int k = 0; k < 7; k++) {
            Bench.due("leap column", x.option(k, 1), to[2 * k]);
            Bench.due("leap row", x.option(k, 2), to[2 * k + 1]);
        }
        Bench.due("leap takes", x.option(0, 3), 2);
        GardenChess y = Bench.on("board 5 by 5 white 1 black 1;kind kn ways 4 reach 4 worth 3;man n is kn of 0 at 0 0;");
        Bench.due("a leap is once, whatever the reach", y.man(0, 4), 2);
    }

    private static void ways() {
        int[][] want = {{4, 8, 8, 8}, {4, 8, 8, 8}, {8, 16, 16, 16}};
        for (int ways = 1; ways <= 3; ways++) {
            for (int reach = 1; reach <= 4; reach++) {
                GardenChess x = Bench.on("board 5 by 5 white 1 black 1;kind kk ways " + ways + " reach " + reach
                    + " worth 1;man m is kk of 0 at 2 2;");
                Bench.due("ways " + ways + " reach " + reach, x.man(0, 4), want[ways - 1][reach - 1]);
            }
        }
    }

    private static void check() {
        // Behind the pawn stands the rook: whatever the pawn does, the crown stands where the rook goes.
        GardenChess x = Bench.on("board 3 by 3 white 1 black 1;kind kr ways 1 reach 2 worth 5;kind kp ways 2 reach 1 worth 1;"
            + "kind kc ways 1 reach 1 worth 9 crown;man r is kr of 0 at 0 0;man p is kp of 0 at 0 1;man c is kc of 1 at 0 2;");
        moves(x, 0, 1, 0, 0, 2, 0, 1, 1, 0, 1, 1, 2);
        int[] want = {0, 0, 1, 1};
        for (int k = 0; k < 4; k++) {
            Bench.due("CHECK of " + k, x.option(k, 4), want[k]);
        }
        // One CROWN is taken, the other one stands where the rook could go then.
        GardenChess y = Bench.on("board 4 by 2 white 1 black 1;kind kr ways 1 reach 1 worth 5;kind kc ways 1 reach 1 worth 9 crown;"
            + "man r is kr of 0 at 0 0;man c is kc of 1 at 1 0;man d is kc of 1 at 2 0;");
        Bench.due("CHECK of a CROWN beside one TAKEN", y.option(0, 4), 1);
        // The man at 3 0 gives it, though another one moves.
        GardenChess z = Bench.on("board 4 by 2 white 1 black 1;kind kc ways 1 reach 1 worth 9 crown;"
            + "man r is kc of 0 at 0 0;man c is kc of 0 at 3 0;man d is kc of 1 at 3 1;");
        Bench.due("CHECK of a CROWN by a CROWN", z.option(0, 4), 1);
    }

    private static void over() {
        GardenChess x = Bench.on("board 2 by 2 white 1 black 1;kind kc ways 1 reach 1 worth 9 crown;kind kn ways 4 reach 1 worth 3;"
            + "man a is kn of 0 at 0 0;man b is kc of 1 at 1 1;");
        Bench.due("OVER without a MOVE", x.has(7), 1);
        Bench.due("man(1, 4)", x.man(1, 4), 2);
        Bench.due("value(2)", x.value(2), -6);
        Bench.due("best(2)", x.best(2), -1);
        Bench.due("forced()", x.forced(), -1);
        Bench.due("play(0)", x.play(0), -1);
        Bench.due("days(1)", x.days(1), 0);
        Bench.due("the other SIDE has MOVES", x.has(7), 0);
        Bench.due("best(1)", x.best(1), 0);
        GardenChess y = Bench.on("board 2 by 2 white 1 black 1;kind kc ways 1 reach 1 worth 9 crown;"
            + "man a is kc of 0 at 0 0;man b is kc of 1 at 1 0;man d is kc of 1 at 1 1;");
        Bench.due("play(0)", y.play(0), 1);
        Bench.due("OVER behind a CROWN TAKEN", y.has(7), 1);
        Bench.due("MOVES were the GAME not OVER", y.man(2, 4), 2);
        Bench.due("option", y.option(0, 0), -1);
        Bench.due("value(3)", y.value(3), 0);
        Bench.due("balance(0)", y.balance(0), 0);
        Bench.due("best(3)", y.best(3), -1);
        Bench.due("forced()", y.forced(), -1);
        Bench.due("days(2)", y.days(2), 0);
        Bench.due("still OVER", y.has(7), 1);
    }

    private static void values() {
        // The rook may take the pawn (1), behind which the queen (9) takes the rook (5).
        GardenChess x = Bench.on("board 5 by 2 white 1 black 1;kind kr ways 1 reach 4 worth 5;kind kp ways 2 reach 1 worth 1;"
            + "kind kq ways 1 reach 4 worth 9;man r is kr of 0 at 0 0;man p is kp of 1 at 2 0;man q is kq of 1 at 4 0;");
        Bench.due("balance(0)", x.balance(0), -5);
        Bench.due("balance(1)", x.balance(1), 5);
        Bench.due("value(0)", x.value(0), -5);
        Bench.due("value(1)", x.value(1), -4);
        Bench.due("value(2)", x.value(2), -5);
        Bench.due("best(1)", x.best(1), 1);
        Bench.due("best(2)", x.best(2), 0);
        x.play(0);
        Bench.due("value(0) of black", x.value(0), 5);
    }

    private static void firstOfLike() {
        GardenChess x = Bench.on("board 3 by 2 white 1 black 1;kind kr ways 1 reach 1 worth 5;"
            + "man a is kr of 0 at 1 0;man b is kr of 1 at 0 0;man c is kr of 1 at 2 0;");
        moves(x, 0, 0, 0, 0, 2, 0, 0, 1, 1);
        Bench.due("the first of like ones", x.best(1), 0);
        GardenChess y = Bench.on("board 3 by 2 white 1 black 1;kind kr ways 1 reach 1 worth 0;"
            + "man a is kr of 0 at 1 0;man b is kr of 1 at 2 0;");
        Bench.due("worth nothing", y.best(3), 0);
    }

    private static void forcedByTwo() {
        // The crown in the corner has two ways out; each is the rook's line behind 1 0 and 1 1.
        GardenChess x = Bench.on("board 3 by 2 white 1 black 1;kind kr ways 1 reach 4 worth 5;kind kc ways 1 reach 1 worth 9 crown;"
            + "man a is kr of 0 at 2 1;man b is kc of 1 at 0 0;");
        Bench.due("forced()", x.forced(), 2);
        GardenChess y = Bench.on("board 3 by 3 white 1 black 1;kind kr ways 1 reach 1 worth 5;kind kc ways 1 reach 1 worth 9 crown;"
            + "man a is kr of 0 at 2 2;man b is kc of 1 at 0 0;");
        Bench.due("forced() from afar", y.forced(), -1);
        GardenChess z = Bench.on("board 3 by 2 white 1 black 1;kind kr ways 1 reach 4 worth 5;kind kc ways 1 reach 1 worth 9 crown;"
            + "man a is kr of 0 at 2 0;man b is kc of 1 at 0 0;");
        Bench.due("forced() at once", z.forced(), 1);
    }

    private static void notForced() {
        // Behind the rook's one MOVE the crown can't move: the GAME is OVER, nothing is taken.
        GardenChess x = Bench.on("board 2 by 2 white 1 black 1;kind kr ways 1 reach 1 worth 5;kind kc ways 4 reach 1 worth 9 crown;"
            + "man a is kr of 0 at 0 0;man b is kc of 1 at 1 1;");
        Bench.due("forced() when the other SIDE has no MOVE", x.forced(), -1);
        // White without CROWNS to take.
        GardenChess y = Bench.on("board 2 by 2 white 1 black 1;kind kr ways 1 reach 1 worth 5;"
            + "man a is kr of 0 at 0 0;man b is kr of 1 at 1 0;");
        Bench.due("forced() without CROWNS", y.forced(), -1);
        // Black's reply takes white's CROWN, so no MOVE takes black's.
        GardenChess z = Bench.on("board 3 by 2 white 1 black 1;kind kr ways 1 reach 4 worth 5;kind kc ways 1 reach 1 worth 9 crown;"
            + "man a is kr of 0 at 2 1;man b is kc of 1 at 0 0;man w is kc of 0 at 2 0;man d is kr of 1 at 1 0;");
        Bench.due("forced() when the reply takes a CROWN", z.forced(), -1);
    }

    private static void wrongOnes() {
        GardenChess x = Bench.on("board 3 by 2 white 1 black 1;kind kr ways 1 reach 1 worth 5;man a is kr of 0 at 1 0;");
        int[] far = {-1, 5, Integer.MAX_VALUE, Integer.MIN_VALUE};
        for (int n : far) {
            Bench.due("option of none", x.option(n, 0), -1);
            Bench.due("option of no what", x.option(0, n), -1);
            Bench.due("balance", x.balance(n), Bench.NOTHING);
            Bench.due("value", x.value(n), Bench.NOTHING);
            Bench.due("best", x.best(n), -1);
        }
        Bench.due("balance(2)", x.balance(2), Bench.NOTHING);
        Bench.due("value(4)", x.value(4), Bench.NOTHING);
        Bench.due("value(3)", x.value(3), 5);
        Bench.due("best(0)", x.best(0), -1);
        Bench.due("best(4)", x.best(4), -1);
        Bench.due("best(3)", x.best(3), 0);
        GardenChess none = new GardenChess();
        Bench.due("balance without a board", none.balance(0), Bench.NOTHING);
        Bench.due("value without a board", none.value(0), Bench.NOTHING);
    }
}
