/** Promises 18 to 22: DAYS AHEAD, what FIELDS bear then, SPARED, SOWN, DEEPER. */
public final class AheadTest {
    public static void main(String[] args) {
        harms();
        later();
        deepness();
        spared();
        sown();
        edges();
        wrongOnes();
        Bench.close("AheadTest");
    }

    /** A rook at 0 0 takes one worth 50 at 4 0, giving CHECK to the crown at 4 4. */
    private static GardenChess taking(String rest) {
        return Bench.on("board 5 by 5 white 1 black 1;kind kr ways 1 reach 4 worth 5;kind kp ways 4 reach 1 worth 50;"
            + "kind kc ways 1 reach 1 worth 9 crown;man r is kr of 0 at 0 0;man p is kp of 1 at 4 0;man c is kc of 1 at 4 4;"
            + "field f at 3 2 bears 500;field g at 0 3 bears 40;" + rest);
    }

    private static void harm(String sum, int f, int g) {
        GardenChess x = taking("harm " + sum + ";");
        Bench.due("crop(0, 1) by " + sum, x.crop(0, 1), f);
        Bench.due("crop(1, 1) by " + sum, x.crop(1, 1), g);
    }

    private static void harms() {
        GardenChess x = taking("");
        Bench.due("without harm by worth", x.crop(0, 1), 450);
        Bench.due("0 at least", x.crop(1, 1), 0);
        harm("taken", 450, 0);
        harm("check*7", 493, 33);
        harm("off", 498, 36);
        harm("day+3", 497, 37);
        harm("3-off*2", 500, 40);
        harm("0-5", 500, 40);
        harm("2+3*4", 486, 26);
        harm("(2+3)*4", 480, 20);
        harm("20-5-4", 489, 29);
        harm("20/3*2", 488, 28);
        harm("20/0+1", 499, 39);
        harm("(0-7)/2+9", 495, 35);
        harm("7/(0-2)+9", 495, 35);
        harm("(0-7)/(0-2)", 497, 37);
        harm("min(9,off)", 498, 36);
        harm("max(3,off)", 497, 36);
        harm("9999*9999/1000/100", 490, 30);
        harm("(0-9999)*9999/1000/100+15", 495, 35);
        harm("9999*9999+9999-9999*9999+3", 497, 37);
        harm("9999*9999-9999*9999*9999+5", 495, 35);
        harm("0-9999*9999-5+9999*9999+1", 499, 39);
    }

    private static void later() {
        GardenChess x = taking("grows 99;");
        int[][] want = {{1, 2, 540, 0}, {1, 1, 648, 0}};
        for (int n = 0; n < 2; n++) {
            for (int what = 0; what < 4; what++) {
                Bench.due("later(" + n + ", " + what + ")", x.later(n, what), want[n][what]);
            }
        }
        Bench.due("999 at most", x.crop(0, 20), 999);
        Bench.due("nothing came of it", x.has(5), 0);
        Bench.due("nothing came of it", x.field(0, 2), 500);
        Bench.due("nothing came of it", x.at(4, 0), 1);
    }

    /** Looking two deep the rook leaves the pawn, for the queen would take the rook. */
    private static void deepness() {
        String board = "board 5 by 2 white %d black 1;kind kr ways 1 reach 4 worth 5;kind kp ways 2 reach 1 worth 1;"
            + "kind kq ways 1 reach 4 worth 9;man r is kr of 0 at 0 0;man p is kp of 1 at 2 0;man q is kq of 1 at 4 0;"
            + "field f at 0 0 bears 90;field g at 1 1 bears 50;";
        GardenChess one = Bench.on(String.format(board, 1));
        GardenChess two = Bench.on(String.format(board, 2));
        Bench.due("one deep", one.later(1, 2), 138);
        Bench.due("one deep, two DAYS", one.later(2, 2), 128);
        Bench.due("two deep", two.later(1, 2), 140);
        Bench.due("deeper(0, 2, 1)", one.deeper(0, 2, 1), 2);
        Bench.due("deeper(0, 2, 2)", one.deeper(0, 2, 2), two.later(2, 2) - 128);
        Bench.due("deeper(0, 1, 1)", one.deeper(0, 1, 1), 0);
        Bench.due("deeper(0, 2, 0)", one.deeper(0, 2, 0), 0);
        Bench.due("deeper(0, 1, 1) below 0", two.deeper(0, 1, 1), -2);
        Bench.due("deeper(1, 2, 1)", two.deeper(1, 2, 1), 0);
        Bench.due("as told again", one.later(1, 2), 138);
    }

    private static void spared() {
        GardenChess x = taking("harm off*10+taken;grows 1;");
        // MOVES of the rook: 1 0, 2 0, 3 0, 4 0, 0 1, 0 2, 0 3, 0 4. Nearest to 3 2: two off.
        Bench.due("spare(0, 1, 0)", x.spare(0, 1, 0), 0);
        Bench.due("spare(0, 1, 1)", x.spare(0, 1, 1), 481);
        Bench.due("spare(1, 1, 0)", x.spare(1, 1, 0), 6);
        Bench.due("spare(1, 1, 1)", x.spare(1, 1, 1), 41);
        GardenChess y = Bench.on("board 5 by 2 white 1 black 1;kind kr ways 1 reach 4 worth 5;kind kp ways 1 reach 1 worth 20;"
            + "man r is kr of 0 at 0 0;man p is kp of 1 at 2 0;field f at 0 0 bears 90;");
        // Taking it costs 20 now; going beside it costs 5 behind; what is out of its reach costs nothing.
        Bench.due("spare(0, 1, 0)", y.spare(0, 1, 0), 0);
        Bench.due("spare(0, 1, 1)", y.spare(0, 1, 1), 90);
        Bench.due("spare(0, 2, 0)", y.spare(0, 2, 0), 2);
        Bench.due("spare(0, 2, 1)", y.spare(0, 2, 1), 90);
        GardenChess over = Bench.on("board 2 by 2 white 1 black 1;field f at 0 0 bears 90;");
        Bench.due("spare without a MOVE", over.spare(0, 1, 0), -1);
        Bench.due("spare without a MOVE", over.spare(0, 1, 1), -1);
    }

    private static void sown() {
        GardenChess x = taking("harm off*10+taken;");
        Bench.due("sow(1, 0)", x.sow(1, 0), 4);
        Bench.due("sow(1, 1)", x.sow(1, 1), 0);
        Bench.due("sow(1, 2)", x.sow(1, 2), 50);
        GardenChess y = taking("harm 9999*9999;");
        Bench.due("sow(1, 0)", y.sow(1, 0), 0);
        Bench.due("sow(1, 1)", y.sow(1, 1), 0);
        Bench.due("999999 at most", y.sow(1, 2), 999999);
        GardenChess z = taking("harm 0-off;");
        Bench.due("each at least nothing", z.sow(3, 0), 0);
        Bench.due("each at least nothing", z.sow(3, 2), 0);
        GardenChess w = taking("harm 4-off;");
        Bench.due("the first, row by row", w.sow(1, 0), 0);
        Bench.due("the first, row by row", w.sow(1, 1), 0);
        GardenChess v = taking("");
        Bench.due("without harm by worth", v.sow(1, 2), 50);
        Bench.due("sow(0, 2)", v.sow(0, 2), 0);
        GardenChess u = taking("harm 9999*9999-off;");
        Bench.due("like ones are told by what is there, not by what is told", u.sow(1, 0), 0);
        Bench.due("999996", u.sow(1, 2), 999996);
    }

    /** DAYS AHEAD are not beyond DAY 999. */
    private static void edges() {
        GardenChess x = taking("grows 1;");
        int[] image = Bench.image(x);
        image[0] = 985 / 256;
        image[1] = 985 % 256;
        Bench.tape(x, Bench.marked(image));
        Bench.due("on()", x.on(), true);
        Bench.due("has(5)", x.has(5), 985);
        Bench.due("later(14, 3)", x.later(14, 3) >= 0, true);
        Bench.due("later(15, 3)", x.later(15, 3), -1);
        Bench.due("crop(0, 14)", x.crop(0, 14) >= 0, true);
        Bench.due("crop(0, 15)", x.crop(0, 15), -1);
        Bench.due("sow(14, 0)", x.sow(14, 0) >= 0, true);
        Bench.due("sow(15, 0)", x.sow(15, 0), -1);
        Bench.due("deeper(0, 1, 14)", x.deeper(0, 1, 14), 0);
        Bench.due("deeper(0, 1, 15)", x.deeper(0, 1, 15), Bench.NOTHING);
        image[0] = 994 / 256;
        image[1] = 994 % 256;
        Bench.tape(x, Bench.marked(image));
        Bench.due("on()", x.on(), true);
        Bench.due("spare(0, 5, 0)", x.spare(0, 5, 0) >= 0, true);
        Bench.due("spare(0, 6, 0)", x.spare(0, 6, 0), -1);
    }

    private static void wrongOnes() {
        GardenChess x = taking("");
        GardenChess none = new GardenChess();
        int[] far = {-1, 21, Integer.MAX_VALUE, Integer.MIN_VALUE};
        for (int n : far) {
            Bench.due("later n", x.later(n, 0), -1);
            Bench.due("later what", x.later(0, n), -1);
            Bench.due("crop n", x.crop(0, n), -1);
            Bench.due("crop field", x.crop(n, 0), -1);
            Bench.due("spare field", x.spare(n, 1, 0), -1);
            Bench.due("spare n", x.spare(0, n, 0), -1);
            Bench.due("spare what", x.spare(0, 1, n), -1);
            Bench.due("sow n", x.sow(n, 0), -1);
            Bench.due("sow what", x.sow(0, n), -1);
            Bench.due("deeper side", x.deeper(n, 1, 0), Bench.NOTHING);
            Bench.due("deeper deep", x.deeper(0, n, 0), Bench.NOTHING);
            Bench.due("deeper n", x.deeper(0, 1, n), Bench.NOTHING);
        }
        Bench.due("later(0, 4)", x.later(0, 4), -1);
        Bench.due("later(20, 0)", x.later(20, 0) >= 0, true);
        Bench.due("crop(2, 0)", x.crop(2, 0), -1);
        Bench.due("spare(0, 0, 0)", x.spare(0, 0, 0), -1);
        Bench.due("spare(0, 7, 0)", x.spare(0, 7, 0), -1);
        Bench.due("spare(0, 6, 2)", x.spare(0, 6, 2), -1);
        Bench.due("sow(0, 3)", x.sow(0, 3), -1);
        Bench.due("deeper(2, 1, 0)", x.deeper(2, 1, 0), Bench.NOTHING);
        Bench.due("deeper(0, 0, 0)", x.deeper(0, 0, 0), Bench.NOTHING);
        Bench.due("deeper(0, 3, 0)", x.deeper(0, 3, 0), Bench.NOTHING);
        Bench.due("later without a board", none.later(0, 0), -1);
        Bench.due("sow without a board", none.sow(0, 2), -1);
        Bench.due("deeper without a board", none.deeper(0, 1, 0), Bench.NOTHING);
    }
}
