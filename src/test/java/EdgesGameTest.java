/** Terms I (SUMS) and II, sentence by sentence: each bound of moves, days, acts and draws. */
public final class EdgesGameTest {
    /** Two that go aslant on unlike places: they never meet, so the GAME is never OVER. */
    private static final String LONG = "board 3 by 3 white 1 black 1;kind kb ways 2 reach 1 worth 5;"
        + "man w is kb of 0 at 0 0;man b is kb of 1 at 1 0;field f at 0 0 bears 50;";

    public static void main(String[] args) {
        sumsAreCut();
        products();
        differences();
        division();
        fromTheLeft();
        facts();
        reach();
        overEmptyOnesAlone();
        leaps();
        order();
        overByCrown();
        overWithoutMove();
        check();
        balance();
        valueOfZero();
        bestIsTheFirst();
        bearsNothingAtLeast();
        bearsMost();
        withoutMove();
        lastDay();
        keptForty();
        undoTwenty();
        actsAreOneEach();
        draws();
        noDrawWhenOver();
        seedStays();
        Bench.close("EdgesGameTest");
    }

    /** What harm does everywhere by a SUM without off: 999999 at most is told. */
    private static void harm(String sum, long want) {
        GardenChess x = Bench.on("board 2 by 2 white 1 black 1;kind k ways 1 reach 1 worth 1;man m is k of 0 at 0 0;harm " + sum + ";");
        Bench.due("harm " + sum, x.sow(1, 2), want);
    }

    // ---- "each sum, difference, product above 10 to the 6 is that, below -10 to the 6 likewise"

    private static void sumsAreCut() {
        harm("9999*100+99", 999999);
        harm("9999*100+100-2", 999998);
        harm("9999*100+101-2", 999998);
        harm("9999*100+9999-9999", 990001);
        harm("9999*100+(9999*100)-9999", 990001);
        harm("0-9999*100+(0-100)+9999*100+200", 100);
        harm("0-9999*100+(0-101)+9999*100+200", 100);
        harm("0-9999*100+(0-99)+9999*100+200", 101);
    }

    private static void products() {
        harm("1000*1000-2", 999998);
        harm("1000*1001-2", 999998);
        harm("999*1001", 999999);
        harm("9999*9999*9999*9999-2", 999998);
        harm("9999*9999/10", 100000);
        harm("(0-1000)*1000+9999*100+200", 100);
        harm("(0-1000)*1001+9999*100+200", 100);
        harm("(0-999)*1001+9999*100+200", 101);
        harm("9999*(0-9999)*(0-9999)-2", 999998);
    }

    private static void differences() {
        harm("9999*100-(0-99)", 999999);
        harm("9999*100-(0-101)-2", 999998);
        harm("0-9999*100-100+9999*100+200", 100);
        harm("0-9999*100-101+9999*100+200", 100);
        harm("0-9999*100-9999*100+9999*100+200", 100);
    }

    // ---- "/ gives the greatest whole number not above, by 0 it gives 0"

    private static void division() {
        harm("7/2", 3);
        harm("6/2", 3);
        harm("10+(0-7)/2", 6);
        harm("10+(0-6)/2", 7);
        harm("10+7/(0-2)", 6);
        harm("10+6/(0-2)", 7);
        harm("(0-7)/(0-2)", 3);
        harm("1/9999", 0);
        harm("10+(0-1)/9999", 9);
        harm("10+1/(0-9999)", 9);
        harm("0/5", 0);
        harm("10+5/0", 10);
        harm("10+(0-5)/0", 10);
        harm("10+0/0", 10);
        harm("10+5/(3-3)", 10);
        harm("10+5/0*3", 10);
        harm("1000*1000/1-1", 999999);
        harm("(0-1000)*1000/(0-1)-1", 999999);
    }

    // ---- "All from the left on"

    private static void fromTheLeft() {
        harm("10-3-2", 5);
        harm("10-(3-2)", 9);
        harm("100/10/5", 2);
        harm("100/(10/5)", 50);
        harm("7/4*2", 2);
        harm("2*7/4", 3);
        harm("2+3*4", 14);
        harm("(2+3)*4", 20);
        harm("20-2*3+1", 15);
        harm("min(7,3)", 3);
        harm("max(7,3)", 7);
        harm("min(3,3)+max(3,3)", 6);
        harm("max(0-5,0-7)+9", 4);
        harm("0-5", 0);
    }

    // ---- "worth of the man it takes, 0 if none; 1 if it gives CHECK, else 0; ... the DAY"; "how far": the greater

    private static void facts() {
        String board = "board 5 by 5 white 1 black 1;kind kr ways 1 reach 4 worth 1;kind kp ways 4 reach 1 worth %d;%s"
            + "man r is kr of 0 at 0 0;man p is kp of 1 at %d 1;field f at 0 0 bears 500;harm %s;";
        String crown = "kind kc ways 4 reach 1 worth 0 crown;man c is kc of 1 at 4 %d;";
        GardenChess none = Bench.on(String.format(board, 99, "", 1, "taken+1"));
        Bench.due("no man is taken", none.crop(0, 1), 499);
        GardenChess taken = Bench.on(String.format(board, 99, "", 0, "taken+1"));
        Bench.due("one worth 99 is taken", taken.crop(0, 1), 400);
        GardenChess nought = Bench.on(String.format(board, 0, "", 0, "taken+1"));
        Bench.due("one worth 0 is taken", nought.crop(0, 1), 499);
        GardenChess checked = Bench.on(String.format(board, 9, String.format(crown, 1), 0, "check*7+1"));
        Bench.due("it gives CHECK", checked.crop(0, 1), 492);
        GardenChess unchecked = Bench.on(String.format(board, 9, String.format(crown, 2), 0, "check*7+1"));
        Bench.due("it gives none", unchecked.crop(0, 1), 499);
        for (int c = 0; c < 5; c++) {
            for (int r = 0; r < 5; r++) {
                GardenChess x = Bench.on("board 5 by 5 white 1 black 1;kind kr ways 1 reach 1 worth 1;kind kp ways 1 reach 1 worth 9;"
                    + "man r is kr of 0 at 1 2;man p is kp of 1 at 1 1;field f at " + c + " " + r + " bears 500;harm off;");
                Bench.due("off of " + c + " " + r, x.crop(0, 1), 500 - Math.max(Math.abs(c - 1), Math.abs(r - 1)));
            }
        }
        GardenChess day = Bench.on(LONG + "harm day;grows 99;");
        onDay(day, 998);
        Bench.due("DAY 998", day.sow(1, 2), 998);
        onDay(day, 0);
        Bench.due("DAY 0", day.sow(1, 2), 0);
        Bench.due("DAYS 0 and 1", day.sow(2, 2), 1);
    }

    private static void onDay(GardenChess x, int day) {
        int[] image = Bench.image(x);
        image[0] = day / 256;
        image[1] = day % 256;
        Bench.tape(x, Bench.marked(image));
        Bench.due("on() of DAY " + day, x.on(), true);
    }

    // ---- "by his ways, up to reach places"

    private static void reach() {
        for (int ways = 1; ways <= 3; ways++) {
            for (int reach = 1; reach <= 4; reach++) {
                GardenChess x = Bench.on("board 5 by 5 white 1 black 1;kind k ways " + ways + " reach " + reach
                    + " worth 1;man m is k of 0 at 0 0;");
                Bench.due("ways " + ways + ", reach " + reach, x.man(0, 4), reach * (ways == 3 ? 3 : ways == 1 ? 2 : 1));
                for (int n = 1; n <= 4; n++) {
                    Bench.due("straight " + n, goes(x, n, 0), n <= reach && ways != 2);
                    Bench.due("straight down " + n, goes(x, 0, n), n <= reach && ways != 2);
                    Bench.due("aslant " + n, goes(x, n, n), n <= reach && ways != 1);
                }
                Bench.due("neither", goes(x, 2, 1), false);
            }
        }
        GardenChess small = Bench.on("board 2 by 3 white 1 black 1;kind k ways 3 reach 4 worth 1;man m is k of 0 at 0 0;");
        Bench.due("not beyond the board", small.man(0, 4), 4);
    }

    private static boolean goes(GardenChess x, int column, int row) {
        for (int k = 0; x.option(k, 0) >= 0; k++) {
            if (x.option(k, 1) == column && x.option(k, 2) == row) {
                return true;
            }
        }
        return false;
    }

    // ---- "over empty ones alone, onto an empty one or one of the other SIDE, whose man is TAKEN"

    private static void overEmptyOnesAlone() {
        for (int ways = 1; ways <= 3; ways++) {
            for (int n = 1; n <= 4; n++) {
                int row = ways == 2 ? n : 0;
                String board = "board 5 by 5 white 1 black 1;kind k ways " + ways + " reach 4 worth 1;man m is k of 0 at 0 0;man n is k of ";
                GardenChess own = Bench.on(board + "0 at " + n + " " + row + ";");
                GardenChess other = Bench.on(board + "1 at " + n + " " + row + ";");
                int free = own.man(0, 4) - (ways == 2 ? 0 : ways == 1 ? 4 : 8);
                Bench.due("ahead of one's own", free, n - 1);
                free = other.man(0, 4) - (ways == 2 ? 0 : ways == 1 ? 4 : 8);
                Bench.due("onto the other one's", free, n);
                Bench.due("onto it", goes(other, n, row), true);
                Bench.due("not behind it", n < 4 && goes(other, n + 1, ways == 2 ? n + 1 : 0), false);
                int k = 0;
                while (other.option(k, 1) != n || other.option(k, 2) != row) {
                    k++;
                }
                Bench.due("the man TAKEN", other.option(k, 3), 1);
                Bench.due("play", other.play(k), 1);
                Bench.due("he is TAKEN", other.man(1, 0), -1);
                Bench.due("the other one stands there", other.at(n, row), 0);
            }
        }
    }

    // ---- "two columns and a row, or a column and two rows off (whatever is between; once, whatever his reach)"

    private static void leaps() {
        int[] smallest = {0, 0, 1, 0, 0, 1, 1, 1};
        for (int i = 0; i < 8; i += 2) {
            GardenChess x = Bench.on("board 2 by 2 white 1 black 1;kind k ways 4 reach 4 worth 1;man m is k of 0 at "
                + smallest[i] + " " + smallest[i + 1] + ";");
            Bench.due("no leap on 2 by 2", x.man(0, 4), 0);
        }
        GardenChess wide = Bench.on("board 3 by 2 white 1 black 1;kind k ways 4 reach 4 worth 1;man m is k of 0 at 0 0;");
        Bench.due("two columns and a row", wide.man(0, 4), 1);
        Bench.due("to 2 1", goes(wide, 2, 1), true);
        GardenChess tall = Bench.on("board 2 by 3 white 1 black 1;kind k ways 4 reach 1 worth 1;man m is k of 0 at 0 0;");
        Bench.due("a column and two rows", tall.man(0, 4), 1);
        Bench.due("to 1 2", goes(tall, 1, 2), true);
        for (int reach = 1; reach <= 4; reach++) {
            GardenChess x = Bench.on("board 5 by 5 white 1 black 1;kind k ways 4 reach " + reach + " worth 1;man m is k of 0 at 2 2;");
            Bench.due("once, whatever his reach", x.man(0, 4), 8);
        }
        StringBuilder between = new StringBuilder("board 3 by 3 white 1 black 1;kind k ways 4 reach 1 worth 1;man m is k of 0 at 0 0;");
        String[] places = {"1 0", "2 0", "0 1", "1 1", "0 2", "2 2"};
        for (int i = 0; i < places.length; i++) {
            between.append("man m").append((char) ('a' + i)).append(" is k of ").append(i % 2).append(" at ").append(places[i]).append(';');
        }
        Bench.due("whatever is between", Bench.on(between.toString()).man(0, 4), 2);
        GardenChess own = Bench.on("board 3 by 2 white 1 black 1;kind k ways 4 reach 1 worth 1;man m is k of 0 at 0 0;man n is k of 0 at 2 1;");
        Bench.due("not onto one's own", own.man(0, 4), 0);
        GardenChess other = Bench.on("board 3 by 2 white 1 black 1;kind k ways 4 reach 1 worth 1;man m is k of 0 at 0 0;man n is k of 1 at 2 1;");
        Bench.due("onto the other one's", other.option(0, 3), 1);
    }

    // ---- "MAN by MAN, then places row by row. WHITE begins."

    private static void order() {
        GardenChess x = Bench.on("board 3 by 3 white 1 black 1;kind k ways 3 reach 1 worth 1;man a is k of 1 at 0 0;man b is k of 0 at 1 2;"
            + "man c is k of 0 at 1 0;");
        Bench.due("WHITE begins", x.has(6), 0);
        int[] due = {1, 0, 1, 1, 1, 1, 1, 2, 1, 1, 0, 2, 1, 2, 2, 2, 0, 0, 2, 2, 0, 2, 0, 1, 2, 1, 1, 2, 2, 1};
        for (int i = 0; i < due.length; i++) {
            Bench.due("option(" + i / 3 + ", " + i % 3 + ")", x.option(i / 3, i % 3), due[i]);
        }
        Bench.due("no more", x.option(due.length / 3, 0), -1);
    }

    // ---- "A GAME is OVER when a CROWN is TAKEN"

    private static void overByCrown() {
        GardenChess x = Bench.on("board 3 by 3 white 1 black 1;kind k ways 1 reach 1 worth 1;kind c ways 1 reach 1 worth 9 crown;"
            + "man a is k of 0 at 0 0;man b is k of 1 at 1 0;man d is c of 1 at 0 1;man e is c of 1 at 2 2;");
        Bench.due("not OVER at first", x.has(7), 0);
        x.play(0);
        Bench.due("no CROWN was taken", x.has(7), 0);
        x.undo();
        x.play(1);
        Bench.due("one of two CROWNS was taken", x.has(7), 1);
        Bench.due("no MOVE then", x.option(0, 0), -1);
        Bench.due("none is BEST", x.best(1), -1);
        Bench.due("MOVES were the GAME not OVER", x.man(3, 4), 2);
        Bench.due("a DAY passes without a MOVE", x.days(1), 0);
        Bench.due("still OVER", x.has(7), 1);
        Bench.due("the other SIDE is to move", x.has(6), 0);
    }

    // ---- "and when the SIDE to move has no MOVE"

    private static void overWithoutMove() {
        // White's men shut each other in; black can move.
        GardenChess x = Bench.on("board 3 by 2 white 1 black 1;kind k ways 2 reach 1 worth 1;kind r ways 1 reach 1 worth 1;"
            + "man a is k of 0 at 0 0;man b is k of 0 at 1 1;man c is k of 0 at 2 0;man d is r of 1 at 2 1;");
        Bench.due("OVER", x.has(7), 1);
        Picture.refused(x, 2, "play(0)", -1, () -> x.play(0));
        Bench.due("a DAY without a MOVE", x.days(1), 0);
        Bench.due("the other SIDE has a MOVE", x.has(7), 0);
        Bench.due("and plays it", x.days(1), 1);
    }

    // ---- "CHECK is given by a move behind which a CROWN of the other SIDE stands where the SIDE that moved could go"

    private static void check() {
        String men = "kind r ways 1 reach %d worth 1;kind c ways 4 reach 1 worth 9 crown;man a is r of 0 at 0 1;man b is c of %d at 3 0;";
        String board = "board 5 by 2 white 1 black 1;";
        Bench.due("just in reach", Bench.on(board + String.format(men, 3, 1)).option(0, 4), 1);
        Bench.due("just out of reach", Bench.on(board + String.format(men, 2, 1)).option(0, 4), 0);
        Bench.due("one's own CROWN", Bench.on(board + String.format(men, 3, 0)).option(0, 4), 0);
        Bench.due("one between", Bench.on(board + String.format(men, 4, 1) + "man d is r of 1 at 1 0;").option(0, 4), 0);
    }

    // ---- "BALANCE of a SIDE is worth of its MEN less that of the other one's"

    private static void balance() {
        StringBuilder text = new StringBuilder("board 5 by 2 white 1 black 1;kind k ways 4 reach 1 worth 99;");
        for (int i = 0; i < 8; i++) {
            text.append("man m").append((char) ('a' + i)).append(" is k of 1 at ").append(i % 5).append(' ').append(i / 5).append(';');
        }
        GardenChess x = Bench.on(text.toString());
        Bench.due("all are black's", x.balance(0), -8 * 99);
        Bench.due("all are black's", x.balance(1), 8 * 99);
        Bench.due("VALUE of a GAME that is OVER", x.value(3), -8 * 99);
    }

    // ---- "its BALANCE, if d is 0 or the GAME is OVER"

    private static void valueOfZero() {
        GardenChess x = Bench.on("board 3 by 2 white 1 black 1;kind k ways 1 reach 1 worth 7;man a is k of 0 at 0 0;man b is k of 1 at 1 0;man c is k of 1 at 2 0;");
        // One deep b is taken; two deep a is taken for it; three deep a does not go there, and takes none.
        int[] due = {-7, 0, -7, -7};
        for (int deep = 0; deep <= 3; deep++) {
            Bench.due("value(" + deep + ")", x.value(deep), due[deep]);
        }
    }

    // ---- "The BEST MOVE, looking so deep, is the first by which it has that"

    private static void bestIsTheFirst() {
        GardenChess x = Bench.on("board 3 by 2 white 1 black 1;kind k ways 1 reach 1 worth 7;man a is k of 0 at 1 0;man b is k of 1 at 0 0;man c is k of 1 at 2 0;");
        Bench.due("the first of two like ones", x.best(1), 0);
        GardenChess y = Bench.on("board 3 by 2 white 1 black 1;kind k ways 1 reach 1 worth 7;kind z ways 1 reach 1 worth 6;"
            + "man a is k of 0 at 1 0;man b is z of 1 at 0 0;man c is k of 1 at 2 0;");
        Bench.due("the greater one behind it", y.best(1), 1);
        GardenChess z = Bench.on("board 3 by 2 white 1 black 1;kind k ways 1 reach 1 worth 0;man a is k of 0 at 1 0;man c is k of 1 at 2 0;");
        Bench.due("all like", z.best(1), 0);
    }

    // ---- "bears less by the SUM of harm (... at least by nothing), 0 at least; ... then grows more"

    private static int behindADay(int bears, String rest) {
        GardenChess x = Bench.on("board 3 by 3 white 1 black 1;kind k ways 1 reach 1 worth 1;man a is k of 0 at 0 0;field f at 0 0 bears "
            + bears + ";" + rest);
        x.days(1);
        return x.field(0, 2);
    }

    private static void bearsNothingAtLeast() {
        Bench.due("one is left", behindADay(5, "harm 4;"), 1);
        Bench.due("nothing is left", behindADay(5, "harm 5;"), 0);
        Bench.due("no less than nothing", behindADay(5, "harm 6;"), 0);
        Bench.due("no less than nothing, then it grows", behindADay(5, "harm 9999*9999;grows 3;"), 3);
        Bench.due("harm 0", behindADay(5, "harm 0;"), 5);
        Bench.due("harm below 0 is nothing", behindADay(5, "harm 0-1;"), 5);
        Bench.due("harm below 0 is nothing", behindADay(5, "harm 0-9999*9999;grows 3;"), 8);
        Bench.due("without harm, none TAKEN", behindADay(5, ""), 5);
    }

    // ---- "then grows more, 999 at most"

    private static void bearsMost() {
        Bench.due("998 and 1", behindADay(998, "harm 0;grows 1;"), 999);
        Bench.due("998 and 2", behindADay(998, "harm 0;grows 2;"), 999);
        Bench.due("999 and 0", behindADay(999, "harm 0;"), 999);
        Bench.due("999 and 99", behindADay(999, "harm 0;grows 99;"), 999);
        Bench.due("harm comes ahead of growing", behindADay(999, "harm 50;grows 99;"), 999);
        Bench.due("harm comes ahead of growing", behindADay(990, "harm 95;grows 99;"), 994);
        Bench.due("harm comes ahead of growing", behindADay(10, "harm 95;grows 99;"), 99);
    }

    // ---- "without a MOVE it does not; then grows more"

    private static void withoutMove() {
        GardenChess x = Bench.on("board 2 by 2 white 1 black 1;field f at 0 0 bears 5;harm 50;grows 2;");
        Bench.due("days(1)", x.days(1), 0);
        Bench.due("it bears more", x.field(0, 2), 7);
        Bench.due("the other SIDE is to move", x.has(6), 1);
        Bench.due("the DAY is one more", x.has(5), 1);
        Bench.due("nothing is KEPT", x.has(10), 0);
        Bench.due("it is an ACT", x.has(12), 1);
        Bench.due("no harm to sow by", x.sow(5, 2), 0);
    }

    // ---- "the DAY is one more (999 at most)"

    private static void lastDay() {
        GardenChess x = Bench.on(LONG + "grows 1;sleepy 50;");
        onDay(x, 998);
        Bench.due("play(0) on DAY 998", x.play(0), 255);
        Bench.due("DAY 999", x.has(5), 999);
        Bench.due("KEPT on DAY 998", x.kept(0, 0), 998);
        Picture.refused(x, 2, "play(0) on DAY 999", -1, () -> x.play(0));
        Picture.refused(x, 3, "days(1) on DAY 999", -1, () -> x.days(1));
        Picture.refused(x, 3, "chance(1) on DAY 999", -1, () -> x.chance(1));
        Bench.due("tend on DAY 999", x.tend(0, 1), 52);
        x.undo();
        x.undo();
        Bench.due("DAY 998 again", x.has(5), 998);
        Picture.refused(x, 3, "days(2) on DAY 998", -1, () -> x.days(2));
        Picture.refused(x, 3, "chance(2) on DAY 998", -1, () -> x.chance(2));
        Bench.due("chance(1) on DAY 998", x.chance(1) >= 0, true);
        Bench.due("DAY 999", x.has(5), 999);
        onDay(x, 969);
        Bench.due("days(30) on DAY 969", x.days(30), 30);
        Bench.due("DAY 999", x.has(5), 999);
        onDay(x, 970);
        Picture.refused(x, 3, "days(30) on DAY 970", -1, () -> x.days(30));
        Bench.due("days(29) on DAY 970", x.days(29), 29);
        // A GAME that is OVER has DAYS all the same, and no more of them.
        GardenChess over = Bench.on("board 2 by 2 white 1 black 1;field f at 0 0 bears 5;grows 2;");
        onDay(over, 998);
        Bench.due("days(1) on DAY 998", over.days(1), 0);
        Picture.refused(over, 3, "days(1) on DAY 999", -1, () -> over.days(1));
    }

    // ---- "the last 40 are told"

    private static void keptForty() {
        GardenChess x = Bench.on(LONG);
        x.days(30);
        x.days(9);
        Bench.due("39 are KEPT", x.has(10), 39);
        Bench.due("the first of 39", x.kept(0, 0), 0);
        Bench.due("the last of 39", x.kept(38, 0), 38);
        Bench.due("none behind it", x.kept(39, 0), -1);
        x.play(0);
        Bench.due("40 are KEPT", x.has(10), 40);
        Bench.due("the first of 40", x.kept(0, 0), 0);
        Bench.due("the last of 40", x.kept(39, 0), 39);
        Bench.due("none behind it", x.kept(40, 0), -1);
        x.days(1);
        Bench.due("40 of 41 are told", x.has(10), 40);
        Bench.due("the first of them", x.kept(0, 0), 1);
        Bench.due("the last of them", x.kept(39, 0), 40);
        Bench.due("none behind it", x.kept(40, 0), -1);
        x.undo();
        Bench.due("what was told ahead of it is told again", x.kept(0, 0), 0);
        Bench.due("the last of 40 again", x.kept(39, 0), 39);
        GardenChess y = Bench.on(LONG);
        for (int i = 0; i < 33; i++) {
            y.days(30);
        }
        y.days(9);
        Bench.due("DAY 999", y.has(5), 999);
        Bench.due("the last 40 of 999", y.kept(0, 0), 959);
        Bench.due("the last 40 of 999", y.kept(39, 0), 998);
        for (int i = 0; i < 20; i++) {
            y.undo();
        }
        Bench.due("DAY 420", y.has(5), 420);
        Bench.due("the last 40 of 420", y.kept(0, 0), 380);
        Bench.due("the last 40 of 420", y.kept(39, 0), 419);
    }

    // ---- "The last 20 can be undone"

    private static void undoTwenty() {
        for (int acts : new int[] {1, 19, 20, 21, 45}) {
            GardenChess x = Bench.on(LONG);
            for (int i = 0; i < acts; i++) {
                x.tend(0, 1);
            }
            int most = Math.min(acts, 20);
            Bench.due(acts + " ACTS: has(12)", x.has(12), most);
            for (int i = 1; i <= most; i++) {
                Bench.due("undo " + i, x.undo(), true);
                Bench.due("it bears", x.field(0, 2), 50 + acts - i);
                Bench.due("has(12)", x.has(12), most - i);
            }
            Picture.refused(x, 4, "undo() of none", 0, () -> x.undo() ? 1 : 0);
            x.tend(0, 7);
            Bench.due("an ACT behind it", x.has(12), 1);
            Bench.due("is undone", x.undo(), true);
            Bench.due("it bears", x.field(0, 2), 50 + acts - most);
        }
    }

    // ---- "ACTS: a MOVE ...; a FIELD is tended ...; DAYS; DAYS by the seed" (one ACT)

    private static void actsAreOneEach() {
        GardenChess x = Bench.on(LONG + "grows 1;sleepy 30;");
        Picture[] ahead = new Picture[5];
        for (int i = 0; i < 4; i++) {
            ahead[i] = Picture.of(x);
            switch (i) {
                case 0: x.play(0); break;
                case 1: x.tend(0, 99); break;
                case 2: x.days(30); break;
                default: x.chance(30);
            }
            Bench.due("one ACT more", x.has(12), i + 1);
        }
        for (int i = 3; i >= 0; i--) {
            Bench.due("undo()", x.undo(), true);
            ahead[i].stays(x, "undo()");
        }
    }

    // ---- "A DRAW of m: x (the seed) becomes (1103515245 x + 12345) mod 2 to the 31; floor(x / 64) mod m"

    private static void draws() {
        String board = "board 5 by 5 white 1 black 1;kind k ways 3 reach 4 worth 5;man m is k of 0 at 2 2;sleepy 100;";
        GardenChess still = Bench.on(board);
        for (int seed : new int[] {0, 1, 2, 63, 64, 12345, 1 << 30, Integer.MAX_VALUE - 1, Integer.MAX_VALUE}) {
            GardenChess x = Bench.on(board);
            x.seed(seed);
            java.math.BigInteger drawn = java.math.BigInteger.valueOf(seed);
            for (int i = 0; i < 6; i++) {
                drawn = next(next(drawn));
                int k = drawn.shiftRight(6).intValue() % 16;
                Bench.due("chance(1)", x.chance(1), 1);
                Bench.due("column by seed " + seed, x.kept(0, 2), still.option(k, 1));
                Bench.due("row by seed " + seed, x.kept(0, 3), still.option(k, 2));
                x.undo();
            }
        }
        // One MOVE alone: a DRAW of 1 is 0, and is drawn all the same.
        GardenChess one = Bench.on("board 2 by 2 white 1 black 1;kind k ways 2 reach 1 worth 5;man m is k of 0 at 0 0;sleepy 100;");
        Bench.due("chance(1)", one.chance(1), 1);
        Bench.due("the one MOVE", one.at(1, 1), 0);
        Bench.board(one, board);
        java.math.BigInteger drawn = java.math.BigInteger.ONE;
        for (int i = 0; i < 4; i++) {
            drawn = next(drawn);
        }
        one.chance(1);
        int k = drawn.shiftRight(6).intValue() % 16;
        Bench.due("the fourth DRAW", one.kept(0, 2), still.option(k, 1));
        Bench.due("the fourth DRAW", one.kept(0, 3), still.option(k, 2));
    }

    private static java.math.BigInteger next(java.math.BigInteger seed) {
        java.math.BigInteger grown = seed.multiply(java.math.BigInteger.valueOf(1103515245)).add(java.math.BigInteger.valueOf(12345));
        return grown.mod(java.math.BigInteger.ONE.shiftLeft(31));
    }

    // ---- "ahead of each, if the GAME is not OVER, a DRAW of 100: below sleepy a DRAW of its MOVES"

    private static void noDrawWhenOver() {
        String board = "board 5 by 5 white 1 black 1;kind k ways 3 reach 4 worth 5;man m is k of 0 at 2 2;sleepy ";
        GardenChess still = Bench.on(board + "0;");
        int[] drawnAhead = {0, 1, 2};
        String[] first = {"board 2 by 2 white 1 black 1;sleepy 100;", board + "0;", board + "100;"};
        for (int i = 0; i < 3; i++) {
            GardenChess x = Bench.on(first[i]);
            x.chance(1);
            Bench.board(x, board + "100;");
            java.math.BigInteger drawn = java.math.BigInteger.ONE;
            for (int j = 0; j < drawnAhead[i] + 2; j++) {
                drawn = next(drawn);
            }
            x.chance(1);
            int k = drawn.shiftRight(6).intValue() % 16;
            Bench.due("column behind " + drawnAhead[i] + " DRAWS", x.kept(0, 2), still.option(k, 1));
            Bench.due("row behind " + drawnAhead[i] + " DRAWS", x.kept(0, 3), still.option(k, 2));
        }
    }

    // ---- "the seed stays" (board(), undo()); by on() and refused calls, too

    private static void seedStays() {
        String board = "board 5 by 5 white 1 black 1;kind k ways 3 reach 4 worth 5;man m is k of 0 at 2 2;field f at 0 0 bears 9;sleepy 50;";
        for (int i = 0; i < 8; i++) {
            GardenChess x = Bench.on(board);
            GardenChess y = Bench.on(board);
            x.seed(4711);
            y.seed(4711);
            switch (i) {
                case 0: Bench.board(x, board); break;
                case 1: Bench.board(x, "board"); break;
                case 2: Bench.tape(x, Bench.image(x)); x.on(); break;
                case 3: x.on(); break;
                case 4: x.seed(-1); break;
                case 5: x.chance(0); x.chance(31); x.days(1); x.undo(); break;
                case 6: x.later(20, 0); x.spare(0, 6, 0); x.sow(20, 0); x.deeper(0, 2, 20); break;
                default: x.tend(0, 3); x.undo(); x.undo(); x.image();
            }
            for (int n = 0; n < 5; n++) {
                Bench.due("chance(9) as without it, " + i, x.chance(9), y.chance(9));
                Bench.due("the same place, " + i, x.man(0, 0) * 5 + x.man(0, 1), y.man(0, 0) * 5 + y.man(0, 1));
            }
        }
    }
}
