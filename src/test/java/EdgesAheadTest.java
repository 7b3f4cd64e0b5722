/**
 * Terms III and promises 17 to 25, sentence by sentence: how far one looks AHEAD, FORCED, SPARED,
 * SOWN, SEEN, REACHED, DEEPER. No such call changes anything but what is SEEN and what is refused.
 */
public final class EdgesAheadTest {
    private static final int[] FAR = {-1, -2, 99, 255, 256, Integer.MAX_VALUE, Integer.MIN_VALUE};

    /** Two that go aslant on unlike places: the GAME is never OVER, none is TAKEN. */
    private static final String LONG = "board 3 by 3 white 1 black 1;kind kb ways 2 reach 1 worth 5;"
        + "man w is kb of 0 at 0 0;man b is kb of 1 at 1 0;field f at 0 0 bears 50;field g at 2 2 bears 60;harm 1;grows 3;";

    public static void main(String[] args) {
        laterBounds();
        laterWhat();
        cropBounds();
        spareBounds();
        spareOfLike();
        sowBounds();
        sowOfLike();
        sowIsCut();
        deeperBounds();
        notBeyondTheLastDay();
        forcedByOne();
        forcedByTwo();
        forcedNot();
        seeRows();
        seeNone();
        playedBounds();
        reachedBounds();
        reachedNone();
        reachedOver();
        withoutBoard();
        Bench.close("EdgesAheadTest");
    }

    private static void onDay(GardenChess x, int day) {
        int[] image = Bench.image(x);
        image[0] = day / 256;
        image[1] = day % 256;
        Bench.tape(x, Bench.marked(image));
        Bench.due("on() of DAY " + day, x.on(), true);
    }

    // ---- later: "n DAYS AHEAD (0 .. 20)"; "NONE when n can't be, without a board, or for others"

    private static void laterBounds() {
        GardenChess x = Bench.on(LONG);
        for (int n = 0; n <= 20; n++) {
            final int days = n;
            Picture.tells(x, "later(" + n + ", 2)", 110 + 4 * n, () -> x.later(days, 2));
        }
        for (int n : FAR) {
            Picture.tells(x, "later(" + n + ", 2)", -1, () -> x.later(n, 2));
        }
        Picture.tells(x, "later(21, 2)", -1, () -> x.later(21, 2));
    }

    private static void laterWhat() {
        GardenChess x = Bench.on("board 3 by 2 white 1 black 1;kind r ways 1 reach 2 worth 5;kind c ways 1 reach 1 worth 2 crown;"
            + "man a is r of 0 at 0 0;man d is r of 0 at 0 1;man b is c of 1 at 2 0;field f at 0 0 bears 50;grows 1;");
        long[] now = {2, 1, 50, 0};
        long[] then = {2, 0, 49, 1};
        for (int what = 0; what < 4; what++) {
            final int w = what;
            Picture.tells(x, "later(0, " + what + ")", now[what], () -> x.later(0, w));
            Picture.tells(x, "later(1, " + what + ")", then[what], () -> x.later(1, w));
        }
        for (int what : FAR) {
            Picture.tells(x, "later(0, " + what + ")", -1, () -> x.later(0, what));
        }
        Picture.tells(x, "later(0, 4)", -1, () -> x.later(0, 4));
        Bench.due("behind OVER it grows on", x.later(20, 2), 68);
    }

    // ---- crop: "(0 .. 20); NONE when there is none such, or n can't be"

    private static void cropBounds() {
        GardenChess x = Bench.on(LONG);
        for (int n = 0; n <= 20; n++) {
            final int days = n;
            Picture.tells(x, "crop(0, " + n + ")", 50 + 2 * n, () -> x.crop(0, days));
            Picture.tells(x, "crop(1, " + n + ")", 60 + 2 * n, () -> x.crop(1, days));
        }
        Picture.tells(x, "crop(0, 21)", -1, () -> x.crop(0, 21));
        Picture.tells(x, "crop(2, 0)", -1, () -> x.crop(2, 0));
        Picture.tells(x, "crop(6, 0)", -1, () -> x.crop(6, 0));
        for (int n : FAR) {
            Picture.tells(x, "crop(0, " + n + ")", -1, () -> x.crop(0, n));
            Picture.tells(x, "crop(" + n + ", 0)", -1, () -> x.crop(n, 0));
        }
    }

    // ---- spare: "n DAYS AHEAD (1 .. 6)"; "NONE without a MOVE, when there is none such, n can't be, or for others"

    private static void spareBounds() {
        GardenChess x = Bench.on(LONG);
        for (int n = 1; n <= 6; n++) {
            final int days = n;
            Picture.tells(x, "spare(0, " + n + ", 0)", 0, () -> x.spare(0, days, 0));
            Picture.tells(x, "spare(1, " + n + ", 1)", 60 + 2 * n, () -> x.spare(1, days, 1));
        }
        for (int what = 0; what < 2; what++) {
            final int w = what;
            Picture.tells(x, "spare(0, 0, " + what + ")", -1, () -> x.spare(0, 0, w));
            Picture.tells(x, "spare(0, 7, " + what + ")", -1, () -> x.spare(0, 7, w));
            Picture.tells(x, "spare(2, 1, " + what + ")", -1, () -> x.spare(2, 1, w));
        }
        Picture.tells(x, "spare(0, 1, 2)", -1, () -> x.spare(0, 1, 2));
        for (int n : FAR) {
            Picture.tells(x, "spare(" + n + ", 1, 0)", -1, () -> x.spare(n, 1, 0));
            Picture.tells(x, "spare(0, " + n + ", 0)", -1, () -> x.spare(0, n, 0));
            Picture.tells(x, "spare(0, 1, " + n + ")", -1, () -> x.spare(0, 1, n));
        }
        GardenChess over = Bench.on("board 2 by 2 white 1 black 1;field f at 0 0 bears 9;");
        Picture.tells(over, "spare without a MOVE", -1, () -> over.spare(0, 1, 0));
        Picture.tells(over, "spare without a MOVE", -1, () -> over.spare(0, 1, 1));
    }

    // ---- SPARED: "it bears most; of like ones the first"

    private static void spareOfLike() {
        String board = "board 3 by 3 white 1 black 1;kind k ways 1 reach 2 worth 5;man a is k of 0 at 1 1;field f at 0 0 bears 5;harm ";
        // MOVES: 1 0, 0 1, 2 1, 1 2. Off of 0 0: 1, 1, 2, 2.
        GardenChess near = Bench.on(board + "off;");
        Bench.due("the first of like ones", near.spare(0, 1, 0), 0);
        Bench.due("it bears", near.spare(0, 1, 1), 4);
        GardenChess far = Bench.on(board + "4-off;");
        Bench.due("the first of like ones, behind others", far.spare(0, 1, 0), 2);
        Bench.due("it bears", far.spare(0, 1, 1), 3);
        GardenChess all = Bench.on(board + "9999;");
        Bench.due("it bears nothing by any", all.spare(0, 6, 0), 0);
        Bench.due("it bears nothing by any", all.spare(0, 6, 1), 0);
        GardenChess none = Bench.on(board + "0;");
        Bench.due("no harm by any", none.spare(0, 6, 0), 0);
        Bench.due("no harm by any", none.spare(0, 6, 1), 5);
    }

    // ---- sow: "n DAYS AHEAD (0 .. 20)"; "NONE when n can't be, without a board, or for others"

    private static void sowBounds() {
        GardenChess x = Bench.on(LONG);
        for (int n = 0; n <= 20; n++) {
            final int days = n;
            Picture.tells(x, "sow(" + n + ", 0)", 0, () -> x.sow(days, 0));
            Picture.tells(x, "sow(" + n + ", 1)", 0, () -> x.sow(days, 1));
            Picture.tells(x, "sow(" + n + ", 2)", n, () -> x.sow(days, 2));
        }
        for (int what = 0; what < 3; what++) {
            final int w = what;
            Picture.tells(x, "sow(21, " + what + ")", -1, () -> x.sow(21, w));
            Picture.tells(x, "sow(-1, " + what + ")", -1, () -> x.sow(-1, w));
        }
        Picture.tells(x, "sow(0, 3)", -1, () -> x.sow(0, 3));
        for (int n : FAR) {
            Picture.tells(x, "sow(" + n + ", 2)", -1, () -> x.sow(n, 2));
            Picture.tells(x, "sow(0, " + n + ")", -1, () -> x.sow(0, n));
        }
    }

    // ---- SOWN: "harm ..., each at least nothing, is least together; of like ones the first, row by row"

    private static void sowOfLike() {
        // The MOVE is to 4 0 of 5 by 2, a man of greater worth than the one beside.
        String board = "board 5 by 2 white 1 black 1;kind k ways 1 reach 4 worth 5;kind p ways 4 reach 1 worth 9;"
            + "man a is k of 0 at 0 0;man b is p of 1 at 4 0;harm ";
        int[][] due = {{0, 0, 1}, {4, 0, 0}, {0, 0, 0}, {0, 0, 0}};
        String[] sums = {"5-off", "off", "3-off", "0-5"};
        for (int i = 0; i < sums.length; i++) {
            GardenChess x = Bench.on(board + sums[i] + ";");
            for (int what = 0; what < 3; what++) {
                Bench.due("sow(1, " + what + ") by " + sums[i], x.sow(1, what), due[i][what]);
            }
        }
        GardenChess corner = Bench.on("board 5 by 5 white 1 black 1;kind k ways 1 reach 4 worth 5;kind p ways 4 reach 1 worth 9;"
            + "man a is k of 0 at 0 0;man b is p of 1 at 0 4;harm off;");
        Bench.due("the last row", corner.sow(1, 0), 0);
        Bench.due("the last row", corner.sow(1, 1), 4);
        Bench.due("no harm there", corner.sow(1, 2), 0);
        GardenChess days = Bench.on(LONG.replace("harm 1;", "harm day*10-5;"));
        Bench.due("DAY 0 would do harm below nothing", days.sow(1, 2), 0);
        Bench.due("which makes no other DAY's less", days.sow(2, 2), 5);
        Bench.due("three DAYS", days.sow(3, 2), 20);
    }

    // ---- sow: "harm together, 999999 at most"

    private static void sowIsCut() {
        String[] sums = {"9999*100+98", "9999*100+99", "9999*100+100", "9999*9999", "5000*100", "5000*100-1"};
        int[] one = {999998, 999999, 999999, 999999, 500000, 499999};
        int[] two = {999999, 999999, 999999, 999999, 999999, 999998};
        for (int i = 0; i < sums.length; i++) {
            GardenChess x = Bench.on(LONG.replace("harm 1;", "harm " + sums[i] + ";"));
            Bench.due("one DAY by " + sums[i], x.sow(1, 2), one[i]);
            Bench.due("two DAYS by " + sums[i], x.sow(2, 2), two[i]);
            Bench.due("twenty DAYS by " + sums[i], x.sow(20, 2), 999999);
        }
    }

    // ---- deeper: "looking so deep (1 .. 2), n DAYS AHEAD (0 .. 20)"; "NOTHING when it can't be, or without a board"

    private static void deeperBounds() {
        GardenChess x = Bench.on("board 5 by 2 white 1 black 2;kind r ways 1 reach 4 worth 5;kind p ways 2 reach 1 worth 1;"
            + "kind q ways 1 reach 4 worth 9;man a is r of 0 at 0 0;man b is p of 1 at 2 0;man d is q of 1 at 4 0;"
            + "field f at 0 0 bears 90;field g at 1 1 bears 50;");
        Picture.tells(x, "deeper(0, 2, 1)", 2, () -> x.deeper(0, 2, 1));
        for (int side = 0; side < 2; side++) {
            final int s = side;
            for (int deep = 1; deep <= 2; deep++) {
                final int d = deep;
                Picture.tells(x, "deeper(" + s + ", " + d + ", 0)", 0, () -> x.deeper(s, d, 0));
                Bench.due("deeper(" + s + ", " + d + ", 20)", x.deeper(s, d, 20) != Bench.NOTHING, true);
                Picture.tells(x, "deeper(" + s + ", " + d + ", 21)", Bench.NOTHING, () -> x.deeper(s, d, 21));
                Picture.tells(x, "deeper(" + s + ", " + d + ", -1)", Bench.NOTHING, () -> x.deeper(s, d, -1));
            }
            Picture.tells(x, "deeper(" + s + ", 0, 1)", Bench.NOTHING, () -> x.deeper(s, 0, 1));
            Picture.tells(x, "deeper(" + s + ", 3, 1)", Bench.NOTHING, () -> x.deeper(s, 3, 1));
            Picture.tells(x, "as deep as told", 0, () -> x.deeper(s, s + 1, 20));
        }
        Picture.tells(x, "deeper(2, 1, 1)", Bench.NOTHING, () -> x.deeper(2, 1, 1));
        for (int n : FAR) {
            Picture.tells(x, "deeper(" + n + ", 1, 1)", Bench.NOTHING, () -> x.deeper(n, 1, 1));
            Picture.tells(x, "deeper(0, " + n + ", 1)", Bench.NOTHING, () -> x.deeper(0, n, 1));
            Picture.tells(x, "deeper(0, 1, " + n + ")", Bench.NOTHING, () -> x.deeper(0, 1, n));
        }
        GardenChess two = Bench.on("board 5 by 2 white 2 black 2;kind r ways 1 reach 4 worth 5;kind p ways 2 reach 1 worth 1;"
            + "kind q ways 1 reach 4 worth 9;man a is r of 0 at 0 0;man b is p of 1 at 2 0;man d is q of 1 at 4 0;"
            + "field f at 0 0 bears 90;field g at 1 1 bears 50;");
        Picture.tells(two, "below 0, too", -2, () -> two.deeper(0, 1, 1));
    }

    // ---- AHEAD: "20 at most, not beyond DAY 999"

    private static void notBeyondTheLastDay() {
        GardenChess x = Bench.on(LONG);
        for (int n = 0; n <= 20; n++) {
            onDay(x, 999 - n);
            final int last = n;
            Bench.due("later on DAY " + (999 - n), x.later(n, 2), 110 + 4 * n);
            Bench.due("crop on DAY " + (999 - n), x.crop(0, n), 50 + 2 * n);
            Bench.due("sow on DAY " + (999 - n), x.sow(n, 2), n);
            Bench.due("deeper on DAY " + (999 - n), x.deeper(0, 1, n), 0);
            Picture.tells(x, "later beyond DAY 999", -1, () -> x.later(last + 1, 2));
            Picture.tells(x, "crop beyond DAY 999", -1, () -> x.crop(0, last + 1));
            Picture.tells(x, "sow beyond DAY 999", -1, () -> x.sow(last + 1, 2));
            Picture.tells(x, "deeper beyond DAY 999", Bench.NOTHING, () -> x.deeper(0, 1, last + 1));
            if (n <= 6) {
                Bench.due("spare on DAY " + (999 - n), x.spare(0, n, 1), n == 0 ? -1 : 50 + 2 * n);
                Picture.tells(x, "spare beyond DAY 999", -1, () -> x.spare(0, last + 1, 1));
                Picture.tells(x, "spare beyond DAY 999", -1, () -> x.spare(0, last + 1, 0));
            }
        }
    }

    // ---- FORCED "by 1, if a MOVE takes it now"

    private static void forcedByOne() {
        String board = "board 5 by 2 white 1 black 1;kind r ways 1 reach %d worth 1;kind c ways 4 reach 1 worth 9 crown;"
            + "man a is r of 0 at 0 0;man b is c of %d at 3 0;";
        Bench.due("just in reach", Bench.on(String.format(board, 3, 1)).forced(), 1);
        Bench.due("just out of reach", Bench.on(String.format(board, 2, 1)).forced() == 1, false);
        Bench.due("one's own CROWN", Bench.on(String.format(board, 3, 0)).forced(), -1);
        Bench.due("one that is no CROWN", Bench.on(String.format(board, 3, 1).replace(" crown", "")).forced(), -1);
    }

    // ---- "by 2, if behind a MOVE, whatever the other SIDE moves then ..., a MOVE takes it"

    private static void forcedByTwo() {
        // Behind a MOVE to 1 1 the crown at 0 0 goes to 0 1 or to 1 0: both stand where the rook could go.
        GardenChess x = Bench.on("board 3 by 2 white 1 black 1;kind r ways 1 reach 4 worth 5;kind c ways 1 reach 1 worth 9 crown;"
            + "man a is r of 0 at 2 1;man b is c of 1 at 0 0;");
        Picture.tells(x, "forced()", 2, () -> x.forced());
        // A man more of black's can move, so the crown stays out of the way of the rook.
        GardenChess y = Bench.on("board 3 by 2 white 1 black 1;kind r ways 1 reach 1 worth 5;kind c ways 4 reach 1 worth 9 crown;"
            + "kind s ways 1 reach 1 worth 1;man a is r of 0 at 2 1;man b is c of 1 at 0 0;man d is s of 1 at 0 1;");
        Picture.tells(y, "forced() while another one moves", -1, () -> y.forced());
    }

    // ---- "(it has one at least, and the GAME is not OVER)"; "NONE when it is not, or the GAME is OVER"

    private static void forcedNot() {
        GardenChess shut = Bench.on("board 2 by 2 white 1 black 1;kind r ways 1 reach 1 worth 5;kind c ways 4 reach 1 worth 9 crown;"
            + "man a is r of 0 at 0 0;man b is c of 1 at 1 1;");
        Picture.tells(shut, "the other SIDE has no MOVE then", -1, () -> shut.forced());
        shut.play(0);
        Bench.due("OVER", shut.has(7), 1);
        Picture.tells(shut, "the GAME is OVER", -1, () -> shut.forced());
        GardenChess taken = Bench.on("board 3 by 2 white 1 black 1;kind r ways 1 reach 2 worth 5;kind c ways 1 reach 1 worth 9 crown;"
            + "man a is r of 0 at 0 0;man b is c of 1 at 2 0;man d is c of 1 at 2 1;man e is r of 1 at 1 1;man f is c of 0 at 0 1;");
        Bench.due("a CROWN can be taken", taken.forced(), 1);
        taken.play(1);
        Bench.due("a CROWN was taken", taken.has(8), 1);
        Picture.tells(taken, "the GAME is OVER", -1, () -> taken.forced());
        taken.days(1);
        Picture.tells(taken, "the GAME is OVER for both", -1, () -> taken.forced());
    }

    // ---- see: "1 to 16 rows of three bytes, FIELD, what it bears (two bytes): how many rows"

    private static void seeRows() {
        for (int rows = 1; rows <= 16; rows++) {
            GardenChess x = Bench.on(LONG);
            int[] bytes = new int[3 * rows];
            for (int i = 0; i < rows; i++) {
                bytes[3 * i] = i % 2;
                bytes[3 * i + 2] = i % 2 == 0 ? 52 : 62;
            }
            Bench.tape(x, bytes);
            Picture ahead = Picture.of(x);
            Bench.due("see() of rows", x.see(), rows);
            Bench.due("has(11)", x.has(11), rows);
            Bench.due("played(0)", x.played(0), 1);
            ahead.stays(x, "see()", "has(11)", "played");
            Bench.due("the tape goes", x.feed(0, 0, 0, 0, 0), 20);
            bytes[3 * rows - 1]++;
            x.end(0);
            Bench.tape(x, bytes);
            Bench.due("see() of rows", x.see(), rows);
            Bench.due("the last row is not so", x.played(0), 0);
        }
        GardenChess high = Bench.on(LONG.replace("bears 50", "bears 510"));
        Bench.tape(high, 0, 2, 0);
        Bench.due("two bytes, the higher first", high.see(), 1);
        Bench.due("512", high.played(0), 1);
        Bench.tape(high, 0, 0, 2);
        high.see();
        Bench.due("2", high.played(0), 0);
    }

    // ---- "NONE, refused (1), all staying, when it is none such"

    private static void refusedSee(GardenChess x, String why, int... bytes) {
        Bench.tape(x, bytes);
        Picture.refused(x, 1, "see() of " + why, -1, () -> x.see());
        Bench.due("the tape goes with " + why, x.feed(0, 0, 0, 0, 0), 20);
        x.end(0);
    }

    private static void seeNone() {
        GardenChess x = Bench.on(LONG);
        x.play(0);
        x.undo();
        x.image();
        for (int round = 0; round < 2; round++) {
            refusedSee(x, "nothing");
            refusedSee(x, "one byte", 0);
            refusedSee(x, "two bytes", 0, 0);
            refusedSee(x, "four bytes", 0, 0, 52, 0);
            refusedSee(x, "five bytes", 0, 0, 52, 0, 0);
            refusedSee(x, "17 rows", new int[51]);
            refusedSee(x, "16 rows and a byte", new int[49]);
            refusedSee(x, "47 bytes", new int[47]);
            refusedSee(x, "a FIELD that there is not", 2, 0, 52);
            refusedSee(x, "a FIELD that there is not", 255, 0, 52);
            refusedSee(x, "such a FIELD in the last row", 0, 0, 52, 1, 0, 62, 2, 0, 52);
            Bench.tape(x, 0, 0, 51);
            Bench.due("see()", x.see(), 1);
        }
        Bench.due("what was SEEN last", x.played(0), 0);
    }

    // ---- played: "(all, if nothing is)"; "NONE of these without"; "NONE for others"

    private static void playedBounds() {
        GardenChess x = Bench.on("board 3 by 3 white 1 black 1;kind k ways 1 reach 2 worth 5;man a is k of 0 at 1 1;field f at 0 0 bears 5;harm off;");
        // MOVES: 1 0, 0 1, 2 1, 1 2. Off of 0 0: 1, 1, 2, 2.
        long[][] due = {{4, 0, 3}, {2, 0, 1}, {2, 2, 3}, {0, -1, -1}};
        int[] bears = {-1, 4, 3, 5};
        for (int i = 0; i < 4; i++) {
            if (bears[i] >= 0) {
                Bench.tape(x, 0, 0, bears[i]);
                Bench.due("see()", x.see(), 1);
            }
            for (int what = 0; what < 3; what++) {
                final int w = what;
                Picture.tells(x, "played(" + what + ") by " + bears[i], due[i][what], () -> x.played(w));
            }
            Picture.tells(x, "played(3)", -1, () -> x.played(3));
            for (int n : FAR) {
                Picture.tells(x, "played(" + n + ")", -1, () -> x.played(n));
            }
        }
        GardenChess over = Bench.on("board 2 by 2 white 1 black 1;field f at 0 0 bears 5;");
        Bench.due("no MOVE: how many", over.played(0), 0);
        Bench.due("no MOVE: the first", over.played(1), -1);
        Bench.due("no MOVE: the last", over.played(2), -1);
    }

    // ---- reached: "in how many ways it is REACHED by n MOVES (0 .. 3)"

    private static final String TWO = "board 3 by 3 white 1 black 1;kind r ways 1 reach 1 worth 5;kind c ways 1 reach 1 worth 9 crown;"
        + "man a is r of 0 at 0 0;man b is c of 1 at 2 2;field f at 0 0 bears 5;";

    private static void reach(GardenChess x, int n, long want, int... bytes) {
        Bench.tape(x, bytes);
        Picture.tells(x, "reached(" + n + ")", want, () -> x.reached(n));
        Bench.due("the tape goes", x.feed(0, 0, 0, 0, 0), 20);
        x.end(0);
    }

    private static void reachedBounds() {
        GardenChess x = Bench.on(TWO);
        reach(x, 0, 1, 0, 0, 2, 2);
        reach(x, 0, 0, 1, 0, 2, 2);
        reach(x, 1, 1, 1, 0, 2, 2);
        reach(x, 1, 0, 0, 0, 2, 2);
        reach(x, 1, 0, 2, 0, 2, 2);
        reach(x, 2, 1, 1, 0, 2, 1);
        reach(x, 2, 0, 1, 1, 2, 2);
        reach(x, 3, 2, 1, 1, 2, 1);
        reach(x, 3, 1, 2, 0, 2, 1);
        reach(x, 3, 2, 0, 0, 2, 1);
        reach(x, 3, 0, 0, 0, 2, 2);
    }

    // ---- "NONE, refused (1), when it is none such (two on one place, places that there are not), n can't be"

    private static void refusedReach(GardenChess x, int n, String why, int... bytes) {
        Bench.tape(x, bytes);
        Picture.refused(x, 1, "reached(" + n + ") of " + why, -1, () -> x.reached(n));
        Bench.due("the tape goes with " + why, x.feed(0, 0, 0, 0, 0), 20);
        x.end(0);
    }

    private static void reachedNone() {
        GardenChess x = Bench.on(TWO);
        x.play(0);
        x.image();
        for (int n = 0; n <= 3; n++) {
            refusedReach(x, n, "two on one place", 1, 1, 1, 1);
            refusedReach(x, n, "a column that there is not", 3, 0, 1, 1);
            refusedReach(x, n, "a column that there is not", 1, 1, 3, 0);
            refusedReach(x, n, "a row that there is not", 0, 3, 1, 1);
            refusedReach(x, n, "a row that there is not", 1, 1, 0, 3);
            refusedReach(x, n, "half a place", 255, 0, 1, 1);
            refusedReach(x, n, "half a place", 0, 255, 1, 1);
            refusedReach(x, n, "254, 254", 254, 254, 1, 1);
            refusedReach(x, n, "nothing");
            refusedReach(x, n, "a byte too few", 1, 0, 2);
            refusedReach(x, n, "a byte too many", 1, 0, 2, 1, 0);
            refusedReach(x, n, "a MAN too few", 1, 0);
            refusedReach(x, n, "a MAN too many", 1, 0, 2, 1, 0, 0);
        }
        refusedReach(x, -1, "a good board", 1, 0, 2, 2);
        refusedReach(x, 4, "a good board", 1, 0, 2, 2);
        for (int n : FAR) {
            refusedReach(x, n, "a good board", 1, 0, 2, 2);
        }
        // Both TAKEN is a board, though none leads there; so is one as it was.
        reach(x, 0, 0, 255, 255, 255, 255);
        reach(x, 3, 0, 255, 255, 255, 255);
        reach(x, 0, 1, 1, 0, 2, 2);
    }

    // ---- REACHED "by n MOVES from now on": none comes when the GAME is OVER

    private static void reachedOver() {
        GardenChess x = Bench.on("board 3 by 2 white 1 black 1;kind r ways 1 reach 1 worth 5;kind c ways 1 reach 1 worth 9 crown;"
            + "man a is r of 0 at 0 0;man b is c of 1 at 1 0;");
        reach(x, 1, 1, 1, 0, 255, 255);
        reach(x, 2, 0, 1, 0, 255, 255);
        reach(x, 3, 0, 1, 0, 255, 255);
        reach(x, 3, 1, 0, 0, 255, 255);
        x.play(0);
        Bench.due("OVER", x.has(7), 1);
        reach(x, 0, 1, 1, 0, 255, 255);
        reach(x, 1, 0, 1, 0, 255, 255);
        reach(x, 1, 0, 2, 0, 255, 255);
        GardenChess none = Bench.on("board 2 by 2 white 1 black 1;");
        reach(none, 0, 1);
        reach(none, 1, 0);
        reach(none, 3, 0);
        refusedReach(none, 0, "a MAN too many", 0, 0);
    }

    // ---- without a board

    private static void withoutBoard() {
        GardenChess x = new GardenChess();
        for (int n = 0; n <= 1; n++) {
            final int days = n;
            Picture.tells(x, "later without a board", -1, () -> x.later(days, 0));
            Picture.tells(x, "crop without a board", -1, () -> x.crop(0, days));
            Picture.tells(x, "spare without a board", -1, () -> x.spare(0, days, 0));
            Picture.tells(x, "sow without a board", -1, () -> x.sow(days, 2));
            Picture.tells(x, "deeper without a board", Bench.NOTHING, () -> x.deeper(0, 1, days));
            refusedReach(x, n, "nothing, without a board");
            refusedReach(x, n, "a place, without a board", 0, 0);
        }
        Picture.tells(x, "forced without a board", -1, () -> x.forced());
        refusedSee(x, "nothing, without a board");
        refusedSee(x, "a row, without a board", 0, 0, 1);
        Picture.tells(x, "played(0) without a board", 0, () -> x.played(0));
        Picture.tells(x, "played(1) without a board", -1, () -> x.played(1));
        Picture.tells(x, "played(2) without a board", -1, () -> x.played(2));
    }
}
