/** Promises 1, 2, 3 and 36: a new object, the tape, refusals. */
public final class TapeTest {
    public static void main(String[] args) {
        newObject();
        feeding();
        ending();
        order();
        counts();
        Bench.close("TapeTest");
    }

    private static void newObject() {
        GardenChess x = new GardenChess();
        for (int what = 0; what <= 12; what++) {
            Bench.due("has(" + what + ")", x.has(what), 0);
        }
        for (int what = 0; what <= 5; what++) {
            Bench.due("status(" + what + ")", x.status(what), 0);
        }
        Bench.due("fault(0)", x.fault(0), 0);
        Bench.due("fault(1)", x.fault(1), Bench.NONE);
        Bench.due("octet(0)", x.octet(0), Bench.NONE);
        Bench.due("at(0, 0)", x.at(0, 0), Bench.NONE);
        Bench.due("best(1)", x.best(1), Bench.NONE);
        Bench.due("forced()", x.forced(), Bench.NONE);
        Bench.due("undo()", x.undo(), false);
        Bench.due("NONE", GardenChess.NONE, -1);
        Bench.due("NOTHING", GardenChess.NOTHING, -1000000000000000L);
    }

    private static void feeding() {
        GardenChess x = new GardenChess();
        for (int i = 1; i <= 80; i++) {
            Bench.due("feed " + i, x.feed(0, 0, 0, 0, 0), 20 * i);
        }
        Bench.due("feed beyond 1600", x.feed(0, 0, 0, 0, 0), Bench.NONE);
        Bench.due("status(0)", x.status(0), 1);
        Bench.due("end(1580)", x.end(1580), true);
        Bench.due("feed to 1600", x.feed(1, 2, 3, 4, 5), 1600);
        Bench.due("end(1581)", x.end(1581), true);
        Bench.due("feed to 1601", x.feed(1, 2, 3, 4, 5), Bench.NONE);
        Bench.due("status(0)", x.status(0), 2);
    }

    private static void ending() {
        GardenChess x = new GardenChess();
        Bench.due("end(0) of nothing", x.end(0), true);
        Bench.due("end(1) of nothing", x.end(1), false);
        Bench.due("end(-1)", x.end(-1), false);
        Bench.due("end(least)", x.end(Integer.MIN_VALUE), false);
        Bench.due("end(greatest)", x.end(Integer.MAX_VALUE), false);
        x.feed(0, 0, 0, 0, 0);
        Bench.due("end(20)", x.end(20), true);
        Bench.due("end(21)", x.end(21), false);
        Bench.due("end(7)", x.end(7), true);
        Bench.due("end(8) behind end(7)", x.end(8), false);
        Bench.due("feed behind end(7)", x.feed(0, 0, 0, 0, 0), 27);
        Bench.due("status(0)", x.status(0), 6);
    }

    /** Each number's highest byte comes first; bytes stand behind those that are there. */
    private static void order() {
        GardenChess x = new GardenChess();
        x.feed(0x626f6172, 0x64203220, 0x62792033, 0x20776869, 0x74652031);
        x.feed(0x20626c61, 0x636b2032, 0x3b202020, 0x20202020, 0x3f3f3f3f);
        x.end(29);
        Bench.due("board()", x.board(), 1);
        Bench.due("has(0)", x.has(0), 2);
        Bench.due("has(1)", x.has(1), 3);
        Bench.due("feed behind board()", x.feed(0, 0, 0, 0, 0), 20);
    }

    private static void counts() {
        GardenChess x = Bench.on("board 2 by 2 white 1 black 1;");
        x.end(9);
        x.board();
        x.see();
        Bench.tape(x, 1, 2, 3);
        x.reached(0);
        x.play(0);
        x.tend(0, 1);
        x.play(-1);
        x.days(0);
        x.chance(31);
        x.days(31);
        x.chance(0);
        x.undo();
        x.seed(-5);
        x.on();
        int[] want = {1, 3, 3, 4, 1, 2};
        for (int what = 0; what < want.length; what++) {
            Bench.due("status(" + what + ")", x.status(what), want[what]);
        }
        Bench.due("status(6)", x.status(6), Bench.NONE);
        Bench.due("status(-1)", x.status(-1), Bench.NONE);
        Bench.board(x, "board 2 by 2 white 1 black 1;");
        Bench.due("status(3) behind a board", x.status(3), 4);
    }
}
