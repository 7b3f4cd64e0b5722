/**
 * Promises 1 to 4, 6 to 16, 26 to 31 and 36, sentence by sentence: the last argument that is still
 * good, the first that is not, and that a refused call is counted where it is due and changes nothing.
 */
public final class EdgesPromisesTest {
    private static final int[] FAR = {-1, -2, 99999, 255, 256, Integer.MAX_VALUE, Integer.MIN_VALUE};

    private static final String BOARD = "board 4 by 3 white 1 black 1;kind kr ways 1 reach 4 worth 5;kind knight ways 4 reach 2 worth 3;"
        + "kind kc ways 3 reach 1 worth 9 crown;man a is kr of 0 at 0 0;man b is knight of 0 at 3 0;man c is kc of 1 at 1 2;"
        + "man dodo is kr of 1 at 3 2;field f at 0 0 bears 5;field g at 3 1 bears 6;grows 2;sleepy 40;";

    public static void main(String[] args) {
        newObject();
        feedsTwenty();
        feedsNoMore();
        ends();
        endsNoMore();
        tapeIsTheBoards();
        boardAsAtFirst();
        has();
        letter();
        kind();
        man();
        field();
        at();
        option();
        kept();
        balance();
        value();
        best();
        play();
        tend();
        tendMost();
        days();
        chance();
        undo();
        seed();
        status();
        onlyOneCount();
        Bench.close("EdgesPromisesTest");
    }

    /** A game on the board, some ACTS old, with rows SEEN, an image written and refusals counted. */
    private static GardenChess used() {
        GardenChess x = Bench.on(BOARD);
        x.play(0);
        x.play(0);
        x.tend(0, 9);
        Bench.tape(x, 0, 0, 18, 1, 0, 12);
        x.see();
        x.image();
        x.end(77);
        x.board();
        x.play(-1);
        x.days(0);
        x.seed(-1);
        x.seed(5);
        return x;
    }

    // ---- 1: "No board, no men."

    private static void newObject() {
        GardenChess x = new GardenChess();
        for (int what = 0; what <= 12; what++) {
            Bench.due("has(" + what + ")", x.has(what), 0);
        }
        Bench.due("no man", x.man(0, 2), -1);
        Bench.due("no kind", x.kind(0, 0), -1);
        Bench.due("no place", x.at(0, 0), -1);
        Bench.due("an empty tape", x.end(0), true);
        for (int what = 0; what < 6; what++) {
            Bench.due("status(" + what + ")", x.status(what), 0);
        }
        GardenChess other = Bench.on(BOARD);
        other.days(3);
        Bench.due("no board of another one", x.has(0), 0);
        Bench.due("nor of one made behind it", new GardenChess().has(0), 0);
    }

    // ---- 2: "Twenty bytes come behind those on the tape, of each number the highest first: how many there are"

    private static void feedsTwenty() {
        GardenChess x = Bench.on("board 2 by 2 white 1 black 1;field f at 0 0 bears 1;field g at 0 0 bears 1;");
        // The highest bit of a number is a bit of its first byte like others.
        Bench.due("feed", x.feed(0x0001F401, 0x00FA00FF, 0xFFFFFFFF, 0x80000000, 0x7FFFFFFF), 20);
        Bench.due("end", x.end(6), true);
        Bench.due("see()", x.see(), 2);
        Bench.due("feed", x.feed(0x00FFFF01, 0xFEDC0000, 0, 0, 0), 20);
        Bench.due("end", x.end(6), true);
        Bench.due("see() of bytes above 127", x.see(), 2);
        Bench.due("feed", x.feed(0x62000000, 0, 0, 0, 0x00000020), 20);
        Bench.due("end(1)", x.end(1), true);
        Bench.due("feed behind one byte", x.feed(0x6f617264, 0x20322062, 0x79203220, 0x77686974, 0x65203120), 21);
        Bench.due("feed behind these", x.feed(0x626c6163, 0x6b20313b, 0x20202020, 0x20202020, 0x20202020), 41);
        Bench.due("all in their order", x.board(), 1);
    }

    // ---- "NONE, refused (0), if there would be more than 1600"

    private static void feedsNoMore() {
        GardenChess x = used();
        String text = "board 3 by 2 white 1 black 1;grows 7;";
        Bench.text(x, text + " ".repeat(1600 - text.length()));
        Picture.refused(x, 0, "feed to 1620", -1, () -> x.feed(1, 2, 3, 4, 5));
        Picture.refused(x, 0, "feed to 1620 again", -1, () -> x.feed(0x20202020, 0, 0, 0, 0));
        Bench.due("the tape has 1600", x.end(1600), true);
        Bench.due("end(1599)", x.end(1599), true);
        Picture.refused(x, 0, "feed to 1619", -1, () -> x.feed(1, 2, 3, 4, 5));
        Bench.due("end(1581)", x.end(1581), true);
        Picture.refused(x, 0, "feed to 1601", -1, () -> x.feed(1, 2, 3, 4, 5));
        Bench.due("end(1580)", x.end(1580), true);
        Bench.due("feed to 1600", x.feed(0x20202020, 0x20202020, 0x20202020, 0x20202020, 0x20202020), 1600);
        Picture.refused(x, 0, "end(1601)", 0, () -> x.end(1601) ? 1 : 0);
        Bench.due("the tape is as it was", x.board(), 2);
        Bench.due("a board of 1600 bytes", x.has(0), 3);
        // Up to the last byte all is read.
        Bench.text(x, " ".repeat(1600 - text.length()) + text);
        Bench.due("a board up to the last byte", x.board(), 2);
        Bench.text(x, " ".repeat(1600));
        Bench.due("blanks alone", x.board(), -1);
        Bench.due("FAULT 1", x.fault(0), 1);
        Bench.due("at its length", x.fault(1), 1600);
    }

    // ---- 3: "The tape has its first n bytes alone: true"

    private static void ends() {
        GardenChess x = new GardenChess();
        Bench.due("end(0) of an empty tape", x.end(0), true);
        Bench.text(x, "board 2 by 2 white 1 black 1;??");
        Bench.due("end(31), all of it", x.end(31), true);
        Bench.due("end(29)", x.end(29), true);
        Bench.due("end(29) again", x.end(29), true);
        Bench.due("nothing is refused", x.status(0), 0);
        Bench.due("the first 29 alone", x.board(), 1);
        Bench.text(x, "board");
        Bench.due("end(0)", x.end(0), true);
        Bench.due("feed behind end(0)", x.feed(0, 0, 0, 0, 0), 20);
    }

    // ---- "false, refused (0), if it has not so many, or n is below 0"

    private static void endsNoMore() {
        GardenChess x = used();
        Picture.refused(x, 0, "end(1) of an empty tape", 0, () -> x.end(1) ? 1 : 0);
        Picture.refused(x, 0, "end(-1) of an empty tape", 0, () -> x.end(-1) ? 1 : 0);
        Bench.text(x, "board 2 by 2 white 1 black 1;");
        Picture.refused(x, 0, "end(30)", 0, () -> x.end(30) ? 1 : 0);
        Picture.refused(x, 0, "end(-1)", 0, () -> x.end(-1) ? 1 : 0);
        Picture.refused(x, 0, "end(40), which the tape had once", 0, () -> x.end(40) ? 1 : 0);
        for (int n : FAR) {
            Picture.refused(x, 0, "end(" + n + ")", 0, () -> x.end(n) ? 1 : 0);
        }
        Bench.due("the tape is as it was", x.board(), 1);
    }

    // ---- the tape goes with board(), see(), reached(), ask(), on(), and with no other call

    private static void tapeIsTheBoards() {
        GardenChess x = used();
        Bench.text(x, BOARD);
        x.fault(0);
        x.has(0);
        x.play(0);
        x.tend(0, 1);
        x.days(1);
        x.chance(1);
        x.undo();
        x.seed(1);
        x.image();
        x.octet(0);
        x.played(0);
        x.later(3, 0);
        x.status(0);
        x.play(-1);
        x.tend(9, 9);
        x.days(0);
        x.chance(0);
        x.seed(-1);
        Bench.due("the tape is as it was", x.board(), 12);
        Bench.due("it goes with board()", x.end(1), false);
    }

    // ---- 4: "Without one all is as at first, nothing is KEPT, SEEN or can be undone; the seed stays"

    private static void boardAsAtFirst() {
        GardenChess x = used();
        int[] counts = new int[6];
        for (int what = 0; what < 6; what++) {
            counts[what] = x.status(what);
        }
        Bench.due("board()", Bench.board(x, BOARD), 12);
        GardenChess fresh = Bench.on(BOARD);
        Picture.of(fresh).stays(x, "board()", "status", "octet");
        for (int what = 0; what < 6; what++) {
            Bench.due("status(" + what + ")", x.status(what), counts[what]);
        }
        Picture.refused(x, 4, "undo() behind board()", 0, () -> x.undo() ? 1 : 0);
    }

    // ---- 6: has

    private static void has() {
        GardenChess x = used();
        int[] due = {4, 3, 3, 4, 2, 2, 0, 0, 0, 28, 2, 2, 3};
        for (int what = 0; what < due.length; what++) {
            final int w = what;
            Picture.tells(x, "has(" + what + ")", due[what], () -> x.has(w));
        }
        Picture.tells(x, "has(13)", -1, () -> x.has(13));
        for (int what : FAR) {
            Picture.tells(x, "has(" + what + ")", -1, () -> x.has(what));
        }
        GardenChess none = new GardenChess();
        Bench.due("has(7) without a board", none.has(7), 0);
        Bench.due("has(7) of a board without MEN", Bench.on("board 2 by 2 white 1 black 1;").has(7), 1);
    }

    // ---- 7: "Letter k (0 .. 5) ...: 1 .. 26; 0 behind it; NONE when there is none such"

    private static void letter() {
        GardenChess x = used();
        String[][] names = {{"kr", "knight", "kc"}, {"a", "b", "c", "dodo"}, {"f", "g"}};
        for (int kind = 0; kind < 3; kind++) {
            final int of = kind;
            for (int which = 0; which < names[kind].length; which++) {
                String name = names[kind][which];
                for (int k = 0; k < 6; k++) {
                    int due = k < name.length() ? name.charAt(k) - 'a' + 1 : 0;
                    Bench.due("letter(" + kind + ", " + which + ", " + k + ")", x.letter(kind, which, k), due);
                }
                Bench.due("letter 6", x.letter(kind, which, 6), -1);
                Bench.due("letter -1", x.letter(kind, which, -1), -1);
            }
            int behind = names[kind].length;
            Picture.tells(x, "letter(" + kind + ", " + behind + ", 0)", -1, () -> x.letter(of, behind, 0));
            for (int n : FAR) {
                Picture.tells(x, "letter(" + kind + ", " + n + ", 0)", -1, () -> x.letter(of, n, 0));
                Picture.tells(x, "letter(" + kind + ", 0, " + n + ")", -1, () -> x.letter(of, 0, n));
            }
        }
        Picture.tells(x, "letter(3, 0, 0)", -1, () -> x.letter(3, 0, 0));
        for (int n : FAR) {
            Picture.tells(x, "letter(" + n + ", 0, 0)", -1, () -> x.letter(n, 0, 0));
        }
        // The greatest number of each sort.
        StringBuilder text = new StringBuilder("board 5 by 5 white 1 black 1;");
        for (int i = 0; i < 5; i++) {
            text.append("kind k").append((char) ('a' + i)).append(" ways 1 reach 1 worth 1;");
        }
        for (int i = 0; i < 8; i++) {
            text.append("man m").append((char) ('a' + i)).append(" is kc of 0 at ").append(i % 5).append(' ').append(i / 5).append(';');
        }
        for (int i = 0; i < 6; i++) {
            text.append("field f").append((char) ('a' + i)).append(" at 0 0 bears 1;");
        }
        GardenChess full = Bench.on(text.toString());
        int[] most = {5, 8, 6};
        for (int kind = 0; kind < 3; kind++) {
            Bench.due("the last of sort " + kind, full.letter(kind, most[kind] - 1, 1), most[kind]);
            Bench.due("none behind it", full.letter(kind, most[kind], 1), -1);
        }
    }

    // ---- 8: kind; "NONE when there is none such, or for others"

    private static void kind() {
        GardenChess x = used();
        int[][] due = {{1, 4, 5, 0}, {4, 2, 3, 0}, {3, 1, 9, 1}};
        for (int kind = 0; kind < 3; kind++) {
            final int of = kind;
            for (int what = 0; what < 4; what++) {
                Bench.due("kind(" + kind + ", " + what + ")", x.kind(kind, what), due[kind][what]);
            }
            Picture.tells(x, "kind(" + kind + ", 4)", -1, () -> x.kind(of, 4));
        }
        Picture.tells(x, "kind(3, 0)", -1, () -> x.kind(3, 0));
        for (int n : FAR) {
            Picture.tells(x, "kind(" + n + ", 0)", -1, () -> x.kind(n, 0));
            Picture.tells(x, "kind(0, " + n + ")", -1, () -> x.kind(0, n));
        }
    }

    // ---- 9: man; "(NONE both when he is TAKEN)"; "(0 when he is TAKEN)"

    private static void man() {
        GardenChess x = Bench.on(BOARD);
        int[][] due = {{0, 0, 0, 0, 4}, {3, 0, 1, 0, 2}, {1, 2, 2, 1, 5}, {3, 2, 0, 1, 3}};
        for (int man = 0; man < 4; man++) {
            final int of = man;
            for (int what = 0; what < 5; what++) {
                Bench.due("man(" + man + ", " + what + ")", x.man(man, what), due[man][what]);
            }
            Picture.tells(x, "man(" + man + ", 5)", -1, () -> x.man(of, 5));
        }
        Picture.tells(x, "man(4, 2)", -1, () -> x.man(4, 2));
        for (int n : FAR) {
            Picture.tells(x, "man(" + n + ", 2)", -1, () -> x.man(n, 2));
            Picture.tells(x, "man(0, " + n + ")", -1, () -> x.man(0, n));
        }
        Bench.tape(x, Bench.marked(0, 0, 0, 0, 0, 255, 255, 1, 2, 255, 255, 0, 5, 0, 6, 0));
        Bench.due("on()", x.on(), true);
        int[][] taken = {{0, 0, 0, 0, 5}, {-1, -1, 1, 0, 0}, {1, 2, 2, 1, 5}, {-1, -1, 0, 1, 0}};
        for (int man = 0; man < 4; man++) {
            for (int what = 0; what < 5; what++) {
                Bench.due("man(" + man + ", " + what + ") when two are TAKEN", x.man(man, what), taken[man][what]);
            }
        }
    }

    // ---- 10: field; 11: at; "NONE without, or when it is none of the BOARD"

    private static void field() {
        GardenChess x = Bench.on(BOARD);
        int[][] due = {{0, 0, 5}, {3, 1, 6}};
        for (int field = 0; field < 2; field++) {
            final int of = field;
            for (int what = 0; what < 3; what++) {
                Bench.due("field(" + field + ", " + what + ")", x.field(field, what), due[field][what]);
            }
            Picture.tells(x, "field(" + field + ", 3)", -1, () -> x.field(of, 3));
        }
        Picture.tells(x, "field(2, 0)", -1, () -> x.field(2, 0));
        for (int n : FAR) {
            Picture.tells(x, "field(" + n + ", 0)", -1, () -> x.field(n, 0));
            Picture.tells(x, "field(0, " + n + ")", -1, () -> x.field(0, n));
        }
    }

    private static void at() {
        for (int columns = 2; columns <= 5; columns++) {
            for (int rows = 2; rows <= 5; rows++) {
                GardenChess x = Bench.on("board " + columns + " by " + rows + " white 1 black 1;kind k ways 1 reach 1 worth 1;man a is k of 0 at "
                    + (columns - 1) + " " + (rows - 1) + ";man b is k of 1 at 0 0;");
                for (int c = -2; c < 8; c++) {
                    for (int r = -2; r < 8; r++) {
                        int due = c == columns - 1 && r == rows - 1 ? 0 : c == 0 && r == 0 ? 1 : -1;
                        Bench.due("at(" + c + ", " + r + ") of " + columns + " by " + rows, x.at(c, r), due);
                    }
                }
                for (int n : FAR) {
                    Bench.due("at(" + n + ", 0)", x.at(n, 0), -1);
                    Bench.due("at(0, " + n + ")", x.at(0, n), -1);
                }
            }
        }
    }

    // ---- 12: option; "(the GAME not OVER)"; "NONE when there is none such, or for others"

    private static void option() {
        GardenChess x = Bench.on(BOARD);
        // Rook a: 1 0, 2 0, 0 1, 0 2; colt b: 1 1, 2 2.
        int[][] due = {{0, 1, 0, 255, 1}, {0, 2, 0, 255, 0}, {0, 0, 1, 255, 0}, {0, 0, 2, 255, 1}, {1, 1, 1, 255, 0}, {1, 2, 2, 255, 0}};
        for (int k = 0; k < 6; k++) {
            for (int what = 0; what < 5; what++) {
                Bench.due("option(" + k + ", " + what + ")", x.option(k, what), due[k][what]);
            }
            final int of = k;
            Picture.tells(x, "option(" + k + ", 5)", -1, () -> x.option(of, 5));
        }
        for (int what = 0; what < 5; what++) {
            final int w = what;
            Picture.tells(x, "option(6, " + what + ")", -1, () -> x.option(6, w));
            Picture.tells(x, "option(-1, " + what + ")", -1, () -> x.option(-1, w));
        }
        for (int n : FAR) {
            Picture.tells(x, "option(" + n + ", 0)", -1, () -> x.option(n, 0));
            Picture.tells(x, "option(0, " + n + ")", -1, () -> x.option(0, n));
        }
        Bench.tape(x, Bench.marked(0, 0, 0, 0, 0, 3, 0, 255, 255, 3, 2, 0, 5, 0, 6, 0));
        Bench.due("on()", x.on(), true);
        Bench.due("OVER", x.has(7), 1);
        for (int what = 0; what < 5; what++) {
            Bench.due("option(0, " + what + ") when the GAME is OVER", x.option(0, what), -1);
        }
    }

    // ---- 13: kept; "NONE when there is none such, or for others"

    private static void kept() {
        GardenChess x = used();
        int[][] due = {{0, 0, 1, 0, 255}, {1, 2, 0, 1, 255}};
        for (int k = 0; k < 2; k++) {
            for (int what = 0; what < 5; what++) {
                Bench.due("kept(" + k + ", " + what + ")", x.kept(k, what), due[k][what]);
            }
            final int of = k;
            Picture.tells(x, "kept(" + k + ", 5)", -1, () -> x.kept(of, 5));
        }
        for (int what = 0; what < 5; what++) {
            final int w = what;
            Picture.tells(x, "kept(2, " + what + ")", -1, () -> x.kept(2, w));
            Picture.tells(x, "kept(-1, " + what + ")", -1, () -> x.kept(-1, w));
        }
        for (int n : FAR) {
            Picture.tells(x, "kept(" + n + ", 0)", -1, () -> x.kept(n, 0));
            Picture.tells(x, "kept(0, " + n + ")", -1, () -> x.kept(0, n));
        }
    }

    // ---- 14: balance; "NOTHING when there is none such, or without a board"

    private static void balance() {
        GardenChess x = used();
        Picture.tells(x, "balance(0)", -6, () -> x.balance(0));
        Picture.tells(x, "balance(1)", 6, () -> x.balance(1));
        Picture.tells(x, "balance(2)", Bench.NOTHING, () -> x.balance(2));
        for (int n : FAR) {
            Picture.tells(x, "balance(" + n + ")", Bench.NOTHING, () -> x.balance(n));
        }
        GardenChess none = new GardenChess();
        Picture.tells(none, "balance(0) without a board", Bench.NOTHING, () -> none.balance(0));
        Picture.tells(none, "balance(1) without a board", Bench.NOTHING, () -> none.balance(1));
    }

    // ---- 15: value "(0 .. 3); NOTHING when it can't be, or without a board"

    private static void value() {
        GardenChess x = used();
        Picture.tells(x, "value(0)", -6, () -> x.value(0));
        for (int deep = 0; deep <= 3; deep++) {
            Bench.due("value(" + deep + ")", x.value(deep) > -1000, true);
            Bench.due("value(" + deep + ") without a board", new GardenChess().value(deep), Bench.NOTHING);
        }
        Picture.tells(x, "value(4)", Bench.NOTHING, () -> x.value(4));
        for (int n : FAR) {
            Picture.tells(x, "value(" + n + ")", Bench.NOTHING, () -> x.value(n));
        }
    }

    // ---- 16: best "(1 .. 3)"; "NONE without one, or when it can't be"

    private static void best() {
        GardenChess x = used();
        for (int deep = 1; deep <= 3; deep++) {
            Bench.due("best(" + deep + ")", x.best(deep) >= 0, true);
            Bench.due("best(" + deep + ") without a board", new GardenChess().best(deep), -1);
            Bench.due("best(" + deep + ") without a MOVE", Bench.on("board 2 by 2 white 1 black 1;").best(deep), -1);
        }
        Picture.tells(x, "best(0)", -1, () -> x.best(0));
        Picture.tells(x, "best(4)", -1, () -> x.best(4));
        for (int n : FAR) {
            Picture.tells(x, "best(" + n + ")", -1, () -> x.best(n));
        }
    }

    // ---- 26: play; "NONE, refused (2), when there is none such, or beyond DAY 999"

    private static void play() {
        GardenChess x = Bench.on(BOARD);
        Picture.refused(x, 2, "play(6)", -1, () -> x.play(6));
        for (int n : FAR) {
            Picture.refused(x, 2, "play(" + n + ")", -1, () -> x.play(n));
        }
        Bench.due("the last MOVE", x.play(5), 255);
        Bench.due("it was the colt's", x.man(1, 0) * 10 + x.man(1, 1), 22);
        Bench.due("FIELDS grow", x.has(9), 15);
        x.undo();
        Bench.due("the first MOVE", x.play(0), 255);
        Bench.due("it was the rook's", x.man(0, 0) * 10 + x.man(0, 1), 10);
        GardenChess none = new GardenChess();
        Picture.refused(none, 2, "play(0) without a board", -1, () -> none.play(0));
        GardenChess over = Bench.on("board 2 by 2 white 1 black 1;");
        Picture.refused(over, 2, "play(0) without a MOVE", -1, () -> over.play(0));
        GardenChess first = Bench.on("board 2 by 2 white 1 black 1;kind k ways 1 reach 1 worth 7;man a is k of 1 at 0 0;man b is k of 0 at 1 0;");
        Bench.due("MAN 0 is TAKEN", first.play(0), 0);
    }

    // ---- 27: tend "(1 .. 99)"; "NONE, refused (2), when there is none such, or for others"

    private static void tend() {
        GardenChess x = used();
        Bench.due("tend(0, 1)", x.tend(0, 1), 19);
        Bench.due("tend(1, 99)", x.tend(1, 99), 109);
        Picture.refused(x, 2, "tend(0, 0)", -1, () -> x.tend(0, 0));
        Picture.refused(x, 2, "tend(0, 100)", -1, () -> x.tend(0, 100));
        Picture.refused(x, 2, "tend(2, 1)", -1, () -> x.tend(2, 1));
        Picture.refused(x, 2, "tend(6, 1)", -1, () -> x.tend(6, 1));
        for (int n : FAR) {
            Picture.refused(x, 2, "tend(" + n + ", 1)", -1, () -> x.tend(n, 1));
            Picture.refused(x, 2, "tend(0, " + n + ")", -1, () -> x.tend(0, n));
        }
        Picture ahead = Picture.of(x);
        Bench.due("tend(0, 5)", x.tend(0, 5), 24);
        ahead.stays(x, "tend(0, 5)", "field(0, 2)", "has(9)", "has(12)", "later", "played");
        GardenChess none = new GardenChess();
        Picture.refused(none, 2, "tend(0, 1) without a board", -1, () -> none.tend(0, 1));
    }

    // ---- "999 at most: what it bears then (also if it was 999)"

    private static void tendMost() {
        for (int bears : new int[] {899, 900, 901, 998, 999}) {
            for (int more : new int[] {1, 98, 99}) {
                GardenChess x = Bench.on("board 2 by 2 white 1 black 1;field f at 0 0 bears " + bears + ";");
                Bench.due("tend of " + bears, x.tend(0, more), Math.min(999, bears + more));
                Bench.due("it is an ACT", x.has(12), 1);
                Bench.due("nothing is refused", x.status(2), 0);
                x.undo();
                Bench.due("as it was", x.field(0, 2), bears);
            }
        }
    }

    // ---- 28: days "(1 .. 30)"; "NONE, refused (3), when it can't be, or without a board"

    private static final String LONG = "board 3 by 3 white 1 black 1;kind kb ways 2 reach 1 worth 5;"
        + "man w is kb of 0 at 0 0;man b is kb of 1 at 1 0;field f at 0 0 bears 50;grows 1;";

    private static void days() {
        for (int n : new int[] {1, 2, 29, 30}) {
            GardenChess x = Bench.on(LONG);
            Bench.due("days(" + n + ")", x.days(n), n);
            Bench.due("DAY", x.has(5), n);
            Bench.due("one ACT", x.has(12), 1);
            Bench.due("nothing is refused", x.status(3), 0);
        }
        GardenChess x = used();
        Picture.refused(x, 3, "days(0)", -1, () -> x.days(0));
        Picture.refused(x, 3, "days(31)", -1, () -> x.days(31));
        for (int n : FAR) {
            Picture.refused(x, 3, "days(" + n + ")", -1, () -> x.days(n));
        }
        GardenChess none = new GardenChess();
        Picture.refused(none, 3, "days(1) without a board", -1, () -> none.days(1));
        GardenChess over = Bench.on("board 2 by 2 white 1 black 1;");
        Bench.due("days(30) without a MOVE", over.days(30), 0);
        Bench.due("DAY", over.has(5), 30);
    }

    // ---- 29: chance "(1 .. 30), one ACT: how many MOVES were sleepy; NONE, refused (3), when it can't be, or without a board"

    private static void chance() {
        for (int n : new int[] {1, 2, 29, 30}) {
            GardenChess none = Bench.on(LONG);
            Bench.due("chance(" + n + "), none is sleepy", none.chance(n), 0);
            GardenChess all = Bench.on(LONG + "sleepy 100;");
            Bench.due("chance(" + n + "), all are sleepy", all.chance(n), n);
            Bench.due("DAY", all.has(5), n);
            Bench.due("one ACT", all.has(12), 1);
            Bench.due("all are KEPT", all.has(10), n);
        }
        GardenChess x = used();
        GardenChess y = used();
        Picture.refused(x, 3, "chance(0)", -1, () -> x.chance(0));
        Picture.refused(x, 3, "chance(31)", -1, () -> x.chance(31));
        for (int n : FAR) {
            Picture.refused(x, 3, "chance(" + n + ")", -1, () -> x.chance(n));
        }
        Bench.due("no DRAW was made", x.chance(30), y.chance(30));
        Picture.of(y).stays(x, "chance(30) as without it", "status");
        GardenChess none = new GardenChess();
        Picture.refused(none, 3, "chance(1) without a board", -1, () -> none.chance(1));
    }

    // ---- 30: undo; "false, refused (4), when none can be"

    private static void undo() {
        GardenChess x = used();
        for (int i = 0; i < 3; i++) {
            Bench.due("undo()", x.undo(), true);
        }
        Picture.refused(x, 4, "undo() of none", 0, () -> x.undo() ? 1 : 0);
        Picture.refused(x, 4, "undo() of none again", 0, () -> x.undo() ? 1 : 0);
        GardenChess fresh = Bench.on(BOARD);
        Picture.of(fresh).stays(x, "undo() of all", "status", "octet", "has(11)", "played", "fault");
        GardenChess none = new GardenChess();
        Picture.refused(none, 4, "undo() without a board", 0, () -> none.undo() ? 1 : 0);
    }

    // ---- 31: seed; "false, refused (5), when it is below 0. (It is 1 at first.)"

    private static void seed() {
        GardenChess x = used();
        for (int n : new int[] {-1, -2, Integer.MIN_VALUE}) {
            Picture.refused(x, 5, "seed(" + n + ")", 0, () -> x.seed(n) ? 1 : 0);
        }
        for (int n : new int[] {0, 1, Integer.MAX_VALUE}) {
            Picture.tells(x, "seed(" + n + ")", 1, () -> x.seed(n) ? 1 : 0);
        }
        GardenChess one = Bench.on(BOARD);
        GardenChess told = Bench.on(BOARD);
        GardenChess two = Bench.on(BOARD);
        told.seed(1);
        two.seed(2);
        one.chance(30);
        told.chance(30);
        two.chance(30);
        Picture.of(told).stays(one, "a seed of 1 as at first");
        boolean like = true;
        for (int k = 0; k < 40; k++) {
            like = like && one.kept(k, 2) == two.kept(k, 2) && one.kept(k, 3) == two.kept(k, 3);
        }
        Bench.due("another seed, another game", like, false);
        GardenChess none = new GardenChess();
        Picture.tells(none, "seed(7) without a board", 1, () -> none.seed(7) ? 1 : 0);
        Bench.board(none, BOARD);
        GardenChess seven = Bench.on(BOARD);
        seven.seed(7);
        none.chance(30);
        seven.chance(30);
        Picture.of(seven).stays(none, "a seed told ahead of the board");
    }

    // ---- 36: status "NONE for others"

    private static void status() {
        GardenChess x = used();
        int[] due = {1, 1, 1, 1, 0, 1};
        for (int what = 0; what < 6; what++) {
            final int w = what;
            Picture.tells(x, "status(" + what + ")", due[what], () -> x.status(w));
        }
        Picture.tells(x, "status(6)", -1, () -> x.status(6));
        for (int n : FAR) {
            Picture.tells(x, "status(" + n + ")", -1, () -> x.status(n));
        }
    }

    // ---- "0 feed(), end(); 1 board(), see(), reached(); 2 play(), tend(); 3 days(), chance(); 4 undo(); 5 seed(), on()"

    private static void onlyOneCount() {
        GardenChess x = Bench.on(LONG);
        int[] due = new int[6];
        for (int round = 1; round <= 5; round++) {
            Bench.text(x, " ".repeat(1600));
            x.feed(0, 0, 0, 0, 0);
            counted(x, due, 0);
            x.end(1601);
            counted(x, due, 0);
            x.board();
            counted(x, due, 1);
            x.see();
            counted(x, due, 1);
            x.reached(0);
            counted(x, due, 1);
            x.play(99);
            counted(x, due, 2);
            x.tend(1, 1);
            counted(x, due, 2);
            x.days(31);
            counted(x, due, 3);
            x.chance(31);
            counted(x, due, 3);
            x.undo();
            counted(x, due, 4);
            x.seed(-round);
            counted(x, due, 5);
            x.on();
            counted(x, due, 5);
            x.ask();
            counted(x, due, -1);
        }
    }

    private static void counted(GardenChess x, int[] due, int count) {
        if (count >= 0) {
            due[count]++;
        }
        for (int what = 0; what < 6; what++) {
            Bench.due("status(" + what + ")", x.status(what), due[what]);
        }
    }
}
