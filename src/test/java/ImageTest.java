/** Promises 33 to 35: images, written and taken on. */
public final class ImageTest {
    private static final String BOARD = "board 3 by 4 white 1 black 1;kind kr ways 1 reach 2 worth 5;kind kc ways 1 reach 1 worth 9 crown;"
        + "man r is kr of 0 at 0 0;man c is kc of 1 at 2 3;field f at 0 0 bears 300;field g at 2 3 bears 7;grows 1;";

    public static void main(String[] args) {
        writing();
        takingOn();
        refusing();
        withoutBoard();
        Bench.close("ImageTest");
    }

    private static void writing() {
        GardenChess x = Bench.on(BOARD);
        Bench.due("octet(0) ahead of image()", x.octet(0), -1);
        Bench.due("image()", x.image(), 12);
        int[] want = Bench.marked(0, 0, 0, 0, 0, 2, 3, 1, 44, 0, 7, 0);
        for (int k = 0; k < 12; k++) {
            Bench.due("octet(" + k + ")", x.octet(k), want[k]);
        }
        Bench.due("octet(12)", x.octet(12), -1);
        Bench.due("octet(-1)", x.octet(-1), -1);
        x.days(1);
        Bench.due("octet(1) of the latest image()", x.octet(1), 0);
        x.image();
        Bench.due("octet(1)", x.octet(1), 1);
        Bench.due("octet(2)", x.octet(2), 1);
        Bench.due("octet(8)", x.octet(8), 45);
    }

    private static boolean on(GardenChess x, int... bytes) {
        Bench.tape(x, bytes);
        return x.on();
    }

    private static void takingOn() {
        GardenChess x = Bench.on(BOARD);
        x.play(0);
        Bench.tape(x, 0, 0, 1);
        x.see();
        Bench.due("on()", on(x, Bench.marked(3, 231, 1, 2, 2, 0, 1, 3, 231, 0, 0, 0)), true);
        Bench.due("the tape goes", x.feed(0, 0, 0, 0, 0), 20);
        x.end(0);
        int[] want = {3, 4, 2, 2, 2, 999, 1, 0, 0, 999, 0, 1, 0};
        for (int what = 0; what < want.length; what++) {
            Bench.due("has(" + what + ")", x.has(what), want[what]);
        }
        Bench.due("at(2, 2)", x.at(2, 2), 0);
        Bench.due("at(0, 1)", x.at(0, 1), 1);
        Bench.due("at(0, 0)", x.at(0, 0), -1);
        Bench.due("field(1, 2)", x.field(1, 2), 0);
        Bench.due("undo()", x.undo(), false);
        Bench.due("kept(0, 0)", x.kept(0, 0), -1);
        Bench.due("a CROWN TAKEN", on(x, Bench.marked(0, 5, 0, 1, 1, 255, 255, 0, 9, 0, 9, 0)), true);
        Bench.due("OVER", x.has(7), 1);
        Bench.due("has(8)", x.has(8), 1);
        Bench.due("balance(0)", x.balance(0), 5);
        Bench.due("all TAKEN", on(x, Bench.marked(0, 5, 0, 255, 255, 255, 255, 0, 9, 0, 9, 0)), true);
        Bench.due("has(8)", x.has(8), 2);
        GardenChess y = Bench.on(BOARD);
        y.days(1);
        int[] image = Bench.image(y);
        Bench.due("an image of another one", on(x, image), true);
        int[] again = Bench.image(x);
        for (int k = 0; k < image.length; k++) {
            Bench.due("octet " + k, again[k], image[k]);
        }
        Bench.due("status(5)", x.status(5), 0);
    }

    private static void refusing() {
        GardenChess x = Bench.on(BOARD);
        x.play(0);
        int[] image = Bench.image(x);
        int[] wrong = image.clone();
        wrong[11] = (wrong[11] + 1) % 251;
        Bench.due("a wrong last byte", on(x, wrong), false);
        wrong[11] = image[11] + 251;
        Bench.due("the last byte is below 251", wrong[11] < 256 && on(x, wrong), false);
        int refused = wrong[11] < 256 ? 2 : 1;
        Bench.due("DAY 1000", on(x, Bench.marked(3, 232, 0, 0, 0, 2, 3, 1, 44, 0, 7, 0)), false);
        Bench.due("SIDE 2", on(x, Bench.marked(0, 0, 2, 0, 0, 2, 3, 1, 44, 0, 7, 0)), false);
        Bench.due("column 3", on(x, Bench.marked(0, 0, 0, 3, 0, 2, 3, 1, 44, 0, 7, 0)), false);
        Bench.due("row 4", on(x, Bench.marked(0, 0, 0, 0, 4, 2, 3, 1, 44, 0, 7, 0)), false);
        Bench.due("half TAKEN", on(x, Bench.marked(0, 0, 0, 255, 1, 2, 3, 1, 44, 0, 7, 0)), false);
        Bench.due("half TAKEN", on(x, Bench.marked(0, 0, 0, 1, 255, 2, 3, 1, 44, 0, 7, 0)), false);
        Bench.due("two on one", on(x, Bench.marked(0, 0, 0, 2, 3, 2, 3, 1, 44, 0, 7, 0)), false);
        Bench.due("FIELD 1000", on(x, Bench.marked(0, 0, 0, 0, 0, 2, 3, 3, 232, 0, 7, 0)), false);
        Bench.due("the last FIELD 1000", on(x, Bench.marked(0, 0, 0, 0, 0, 2, 3, 0, 7, 3, 232, 0)), false);
        Bench.due("a byte too few", on(x, Bench.marked(0, 0, 0, 0, 0, 2, 3, 1, 44, 0, 0)), false);
        Bench.due("a byte too many", on(x, Bench.marked(0, 0, 0, 0, 0, 2, 3, 1, 44, 0, 7, 0, 0)), false);
        Bench.due("nothing", on(x), false);
        Bench.due("status(5)", x.status(5), refused + 12);
        int[] again = Bench.image(x);
        for (int k = 0; k < image.length; k++) {
            Bench.due("all stays: octet " + k, again[k], image[k]);
        }
        Bench.due("all stays", x.has(10), 1);
        Bench.due("all stays", x.has(12), 1);
        Bench.due("the tape goes", x.feed(0, 0, 0, 0, 0), 20);
    }

    private static void withoutBoard() {
        GardenChess x = new GardenChess();
        Bench.due("image()", x.image(), 4);
        Bench.due("octet(3)", x.octet(3), 87);
        Bench.due("on()", on(x, 0, 0, 0, 87), false);
        Bench.due("status(5)", x.status(5), 1);
        Bench.due("the tape goes", x.feed(0, 0, 0, 0, 0), 20);
    }
}
