/**
 * DAY 999: no DAY comes behind it, so play, days, chance and all that looks AHEAD by a DAY are
 * refused; but each call that tells what is now, and each ACT that takes no DAY, answers as ever.
 */
public final class LastDayTest {
    private static final String BOARD = "board 3 by 3 white 1 black 2;kind r ways 1 reach 2 worth 5;kind c ways 3 reach 1 worth 9 crown;"
        + "kind l ways 4 reach 1 worth 3;man wr is r of 0 at 0 0;man wc is c of 0 at 2 2;man bl is l of 1 at 2 0;man bc is c of 1 at 0 2;"
        + "field f at 1 1 bears 100;field g at 2 0 bears 50;harm taken+off;grows 2;sleepy 50;";

    public static void main(String[] args) {
        for (int side = 0; side < 2; side++) {
            GardenChess first = on(0, side);
            GardenChess last = on(999, side);
            tellsAsEver("SIDE " + side + ": ", first, last);
            actsWithoutDay("SIDE " + side + ": ", last);
            noDayBehind("SIDE " + side + ": ", last);
        }
        theDayBefore();
        Bench.close("LastDayTest");
    }

    private static GardenChess on(int day, int side) {
        GardenChess x = Bench.on(BOARD);
        int[] image = Bench.image(x);
        image[0] = day / 256;
        image[1] = day % 256;
        image[2] = side;
        Bench.tape(x, Bench.marked(image));
        Bench.due("on() of DAY " + day, x.on(), true);
        Bench.due("DAY", x.has(5), day);
        return x;
    }

    private static void tellsAsEver(String of, GardenChess first, GardenChess last) {
        Bench.due(of + "not OVER", last.has(7), 0);
        for (int deep = 0; deep <= 3; deep++) {
            Bench.due(of + "value(" + deep + ") there is", last.value(deep) != Bench.NOTHING, true);
            Bench.due(of + "value(" + deep + ")", last.value(deep), first.value(deep));
        }
        for (int deep = 1; deep <= 3; deep++) {
            Bench.due(of + "best(" + deep + ") there is", last.best(deep) >= 0, true);
            Bench.due(of + "best(" + deep + ")", last.best(deep), first.best(deep));
        }
        Bench.due(of + "forced()", last.forced(), first.forced());
        Bench.due(of + "forced() of white", last.forced() == 1, last.has(6) == 0);
        Bench.due(of + "a MOVE there is", last.option(0, 0) >= 0, true);
        for (int k = 0; k < 20; k++) {
            for (int what = 0; what < 5; what++) {
                Bench.due(of + "option(" + k + ", " + what + ")", last.option(k, what), first.option(k, what));
            }
        }
        for (int man = 0; man < 4; man++) {
            Bench.due(of + "man(" + man + ", 4)", last.man(man, 4), first.man(man, 4));
        }
        Bench.due(of + "balance(0)", last.balance(0), 2);
        which(of, first, last);
        Bench.due(of + "a QUESTION's day", Bench.ask(last, "most day"), 999);
        Bench.due(of + "a QUESTION's moves", Bench.ask(last, "total moves"), Bench.ask(first, "total moves"));
        Bench.due(of + "later(0, 2)", last.later(0, 2), 150);
        Bench.due(of + "crop(1, 0)", last.crop(1, 0), 50);
        Bench.due(of + "sow(0, 2)", last.sow(0, 2), 0);
        Bench.due(of + "deeper(0, 1, 0)", last.deeper(0, 1, 0), 0);
    }

    private static void which(String of, GardenChess first, GardenChess last) {
        int moves = 0;
        while (last.option(moves, 0) >= 0) {
            moves++;
        }
        Bench.due(of + "played(0)", last.played(0), moves);
        Bench.due(of + "played(1)", last.played(1), 0);
        Bench.due(of + "played(2)", last.played(2), moves - 1);
        for (int bears = 92; bears <= 102; bears++) {
            Bench.tape(first, 0, 0, bears);
            Bench.tape(last, 0, 0, bears);
            Bench.due(of + "see()", last.see(), first.see());
            for (int what = 0; what < 3; what++) {
                Bench.due(of + "played(" + what + ") by " + bears, last.played(what), first.played(what));
            }
        }
        int[] now = {0, 0, 2, 2, 2, 0, 0, 2};
        int man = last.option(0, 0);
        int[] then = now.clone();
        then[2 * man] = last.option(0, 1);
        then[2 * man + 1] = last.option(0, 2);
        Bench.tape(last, now);
        Bench.due(of + "reached(0)", last.reached(0), 1);
        Bench.tape(last, then);
        Bench.due(of + "reached(1)", last.reached(1), 1);
        Bench.tape(first, now);
        Bench.tape(last, now);
        Bench.due(of + "reached(3)", last.reached(3), first.reached(3));
    }

    private static void actsWithoutDay(String of, GardenChess last) {
        Bench.due(of + "tend(0, 7)", last.tend(0, 7), 107);
        Bench.due(of + "can be undone", last.has(12), 1);
        Bench.due(of + "undo()", last.undo(), true);
        Bench.due(of + "it bears", last.field(0, 2), 100);
        Bench.due(of + "seed(3)", last.seed(3), true);
        int[] image = Bench.image(last);
        Bench.due(of + "DAY in an image", 256 * image[0] + image[1], 999);
        Bench.tape(last, image);
        Bench.due(of + "on()", last.on(), true);
    }

    private static void noDayBehind(String of, GardenChess last) {
        Picture.refused(last, 2, of + "play(0)", -1, () -> last.play(0));
        Picture.refused(last, 3, of + "days(1)", -1, () -> last.days(1));
        Picture.refused(last, 3, of + "chance(1)", -1, () -> last.chance(1));
        Picture.tells(last, of + "later(1, 0)", -1, () -> last.later(1, 0));
        Picture.tells(last, of + "crop(0, 1)", -1, () -> last.crop(0, 1));
        Picture.tells(last, of + "spare(0, 1, 0)", -1, () -> last.spare(0, 1, 0));
        Picture.tells(last, of + "sow(1, 0)", -1, () -> last.sow(1, 0));
        Picture.tells(last, of + "deeper(0, 1, 1)", Bench.NOTHING, () -> last.deeper(0, 1, 1));
    }

    private static void theDayBefore() {
        GardenChess x = on(998, 0);
        Bench.due("play(0) on DAY 998", x.play(0) >= 0, true);
        Bench.due("DAY", x.has(5), 999);
        Bench.due("KEPT of DAY 998", x.kept(0, 0), 998);
        Bench.due("undo()", x.undo(), true);
        Bench.due("DAY", x.has(5), 998);
        Bench.due("days(2) on DAY 998", x.days(2), -1);
        Bench.due("chance(2) on DAY 998", x.chance(2), -1);
        Bench.due("days(1) on DAY 998", x.days(1), 1);
        Bench.due("DAY", x.has(5), 999);
    }
}
