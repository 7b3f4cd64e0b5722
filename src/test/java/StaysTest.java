import java.util.function.LongSupplier;

/**
 * What a call that is not refused lets be: what is SEEN, the latest image, the seed, the FAULT, the
 * counts of refusals, what is KEPT and what can be undone stay, unless the document says otherwise.
 */
public final class StaysTest {
    /** All go aslant, white on even places, black on odd ones: none is TAKEN, the GAME is never OVER. */
    private static final String BOARD = "board 4 by 4 white 1 black 1;kind b ways 2 reach 3 worth 5;kind s ways 2 reach 1 worth 4;"
        + "man wb is b of 0 at 0 0;man ws is s of 0 at 2 0;man bb is b of 1 at 2 3;man bs is s of 1 at 0 3;"
        + "field f at 1 1 bears 100;field g at 2 0 bears 50;harm 3-off;grows 2;sleepy 100;";
    private static final int SEED = 77;

    // What an ACT may change of what is told; all else stays.
    private static final String[] BY_ACT = {"has(5)", "has(6)", "has(7)", "has(8)", "has(9)", "has(10)", "has(12)", "man(", "field(",
        "at(", "option(", "kept(", "played(", "balance(", "value(", "best(", "forced(", "later(", "sow(", "deeper("};

    public static void main(String[] args) {
        acts();
        looks();
        images();
        boards();
        seedRunsOn();
        Bench.close("StaysTest");
    }

    /** An object with something KEPT, SEEN, refused, written, undone, a FAULT and a seed of its own. */
    private static GardenChess busy() {
        GardenChess x = Bench.on(BOARD);
        x.play(0);
        x.tend(0, 5);
        x.days(2);
        x.play(1);
        x.undo();
        x.image();
        Bench.tape(x, 0, 0, 101, 1, 0, 50);
        Bench.due("see()", x.see(), 2);
        x.end(-1);
        x.play(-1);
        x.days(0);
        x.seed(-1);
        Bench.due("a QUESTION with a FAULT", Bench.ask(x, "often 1"), Bench.NOTHING);
        Bench.due("see() of nothing", x.see(), -1);
        Bench.due("the FAULT", x.fault(0), 1);
        Bench.due("its place", x.fault(1), 7);
        x.seed(SEED);
        return x;
    }

    private static void lets(String call, GardenChess x, long want, LongSupplier run, String... but) {
        Picture ahead = Picture.of(x);
        Bench.due(call, run.getAsLong(), want);
        ahead.stays(x, call, but);
    }

    private static int truth(boolean is) {
        return is ? 1 : 0;
    }

    // ---- the seed, told by the MOVES that are sleepy

    /** That the seed is this one: with sleepy 100 each DAY draws twice, of 100 and of the MOVES. */
    private static void seedIs(String when, GardenChess x, long seed) {
        long drawn = seed;
        for (int i = 0; i < 4; i++) {
            int moves = 0;
            while (x.option(moves, 0) >= 0) {
                moves++;
            }
            Bench.due("more than one MOVE behind " + when, moves > 1, true);
            drawn = next(next(drawn));
            int k = (int) (drawn / 64 % moves);
            int[] want = {x.option(k, 0), x.option(k, 1), x.option(k, 2)};
            Bench.due("chance(1) behind " + when, x.chance(1), 1);
            for (int what = 0; what < 3; what++) {
                Bench.due("the MOVE by the seed behind " + when, x.kept(x.has(10) - 1, what + 1), want[what]);
            }
        }
    }

    private static long next(long seed) {
        return (1103515245L * seed + 12345L) % 2147483648L;
    }

    // ---- ACTS and undo(): all but what a DAY changes stays, what is SEEN too

    private static void acts() {
        GardenChess x = busy();
        lets("play(0)", x, 255, () -> x.play(0), BY_ACT);
        lets("tend(1, 9)", x, x.field(1, 2) + 9, () -> x.tend(1, 9), BY_ACT);
        lets("days(3)", x, 3, () -> x.days(3), BY_ACT);
        seedIs("play, tend, days", x, SEED);
        lets("chance(2)", x, 2, () -> x.chance(2), BY_ACT);
        for (int i = 0; i < 3; i++) {
            lets("undo()", x, 1, () -> truth(x.undo()), BY_ACT);
        }
        x.seed(SEED);
        lets("undo()", x, 1, () -> truth(x.undo()), BY_ACT);
        seedIs("undo()", x, SEED);
        lets("seed(9)", x, 1, () -> truth(x.seed(9)));
        seedIs("seed(9)", x, 9);
        Bench.due("rows SEEN are still there", x.has(11), 2);
    }

    // ---- calls that only tell, or that take the tape: nothing but what they are for

    private static void looks() {
        GardenChess x = busy();
        Bench.text(x, "often all");
        lets("ask()", x, 4, x::ask, "fault(");
        Bench.due("no FAULT now", x.fault(0), 0);
        Bench.due("no place now", x.fault(1), -1);
        Bench.text(x, "total [");
        lets("ask() with a FAULT", x, Bench.NOTHING, x::ask, "fault(");
        Bench.due("FAULT 1 now", x.fault(0), 1);
        Bench.due("its place", x.fault(1), 6);
        Bench.tape(x, 1, 0, 52);
        lets("see()", x, 1, x::see, "has(11)", "played(");
        Bench.due("one row SEEN", x.has(11), 1);
        Bench.tape(x, 255, 255, 255, 255, 255, 255, 255, 255);
        lets("reached(0)", x, 0, () -> x.reached(0));
        lets("feed()", x, 20, () -> x.feed(1, 2, 3, 4, 5));
        lets("end(0)", x, 1, () -> truth(x.end(0)));
        seedIs("ask, see, reached, feed, end", x, SEED);
    }

    // ---- image() and on(): "nothing is KEPT or can be undone", all else is there still

    private static void images() {
        GardenChess x = busy();
        int[] written = Bench.image(x);
        lets("image()", x, written.length, x::image);
        x.play(0);
        x.days(1);
        Bench.tape(x, written);
        lets("on()", x, 1, () -> truth(x.on()), BY_ACT);
        Bench.due("nothing is KEPT", x.has(10), 0);
        Bench.due("nothing can be undone", x.has(12), 0);
        Bench.due("rows SEEN are still there", x.has(11), 2);
        for (int k = 0; k < written.length; k++) {
            Bench.due("byte " + k + " of the latest image()", x.octet(k), written[k]);
        }
        Bench.due("the FAULT is still there", x.fault(1), 7);
        seedIs("image, on", x, SEED);
    }

    // ---- board(): "all is as at first, nothing is KEPT, SEEN or can be undone; the seed stays"

    private static void boards() {
        GardenChess x = busy();
        int[] written = Bench.image(x);
        int[] refused = new int[6];
        for (int what = 0; what < 6; what++) {
            refused[what] = x.status(what);
        }
        Bench.due("board()", Bench.board(x, BOARD), 12);
        GardenChess fresh = Bench.on(BOARD);
        Picture.of(fresh).stays(x, "board()", "octet(", "status(");
        for (int k = 0; k <= written.length; k++) {
            Bench.due("byte " + k + " of the latest image()", x.octet(k), k < written.length ? written[k] : -1);
        }
        for (int what = 0; what < 6; what++) {
            Bench.due("status(" + what + ") behind board()", x.status(what), refused[what]);
        }
        seedIs("board()", x, SEED);
        x.seed(SEED);
        Picture.refusedBoard(x, "board 2 by 6", 2, 11);
        seedIs("board() with a FAULT", x, SEED);
    }

    // ---- "(It is 1 at first.)"; the seed runs on from DAY to DAY, ACT to ACT, whatever is undone

    private static void seedRunsOn() {
        GardenChess x = Bench.on(BOARD);
        seedIs("nothing", x, 1);
        long drawn = 1;
        for (int i = 0; i < 8; i++) {
            drawn = next(drawn);
        }
        for (int i = 0; i < 4; i++) {
            Bench.due("undo()", x.undo(), true);
        }
        seedIs("four DAYS by the seed, undone", x, drawn);
        GardenChess early = new GardenChess();
        Bench.due("seed() without a board", early.seed(SEED), true);
        Bench.due("board()", Bench.board(early, BOARD), 12);
        seedIs("board() behind seed()", early, SEED);
    }
}
