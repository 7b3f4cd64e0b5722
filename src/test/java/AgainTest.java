import java.util.Random;

/**
 * Promise 4: behind board() "all is as at first". An object that had other boards, with more or
 * fewer of all, answers each call as a new one does that was told the same board.
 */
public final class AgainTest {
    private static final Random CHANCE = new Random(20261118);
    private static final String[] QUESTIONS = {"often all", "total moves*10+worth", "most off number", "least off (5-number)",
        "first side=1", "last not side=1", "total off 0+off 1+off 2+off 3+off 4+off 5+off 6", "total day+column*reach-row"};

    public static void main(String[] args) {
        for (int run = 0; run < 150; run++) {
            GardenChess old = new GardenChess();
            for (int i = 1 + CHANCE.nextInt(3); i > 0; i--) {
                live(old, PlainModel.any(CHANCE));
            }
            PlainModel m = PlainModel.any(CHANCE);
            if (m.text.length() <= 1600) {
                GardenChess fresh = new GardenChess();
                int statements = Bench.board(fresh, m.text);
                Bench.due("board() of " + m.text, Bench.board(old, m.text), statements);
                compare("run " + run + " of " + m.text + ": ", m, old, fresh);
            }
        }
        Bench.close("AgainTest");
    }

    /** A board, and something done on it that leaves its marks. */
    private static void live(GardenChess x, PlainModel m) {
        if (m.text.length() > 1600) {
            return;
        }
        Bench.board(x, m.text);
        places(x, m);
        x.reached(1);
        x.play(CHANCE.nextInt(6));
        x.chance(1 + CHANCE.nextInt(9));
        x.tend(0, 99);
        x.undo();
        Bench.tape(x, 0, 3, 231);
        x.see();
        x.deeper(CHANCE.nextInt(2), 1 + CHANCE.nextInt(2), 3);
        x.sow(3, 2);
        Bench.ask(x, QUESTIONS[CHANCE.nextInt(QUESTIONS.length)]);
        Bench.tape(x, Bench.image(x));
        if (CHANCE.nextBoolean()) {
            x.on();
        }
        Bench.board(x, CHANCE.nextBoolean() ? "" : m.text.substring(0, CHANCE.nextInt(m.text.length())) + "!");
        x.end(0);
    }

    /** The places of all MEN as they stand now, on the tape. */
    private static void places(GardenChess x, PlainModel m) {
        int[] bytes = new int[2 * m.men];
        for (int k = 0; k < bytes.length; k++) {
            bytes[k] = x.man(k / 2, k % 2) & 255;
        }
        Bench.tape(x, bytes);
    }

    private static void compare(String of, PlainModel m, GardenChess old, GardenChess fresh) {
        int seed = CHANCE.nextInt(1000);
        old.seed(seed);
        fresh.seed(seed);
        for (int turn = 0; turn < 3; turn++) {
            Picture.of(fresh).stays(old, of + "turn " + turn, "octet(", "status(");
            ahead(of, old, fresh);
            for (int n = 0; n < 3; n++) {
                places(fresh, m);
                places(old, m);
                Bench.due(of + "reached(" + n + ")", old.reached(n), fresh.reached(n));
            }
            places(old, m);
            Bench.due(of + "reached(0) as it is now", old.reached(0), 1);
            for (String question : QUESTIONS) {
                Bench.due(of + question, Bench.ask(old, question), Bench.ask(fresh, question));
            }
            int[] image = Bench.image(fresh);
            int[] other = Bench.image(old);
            Bench.due(of + "image()", other.length, image.length);
            for (int k = 0; k < image.length; k++) {
                Bench.due(of + "octet(" + k + ")", other[k], image[k]);
            }
            act(of, old, fresh, turn);
        }
        for (int i = 0; i < 4; i++) {
            Bench.due(of + "undo()", old.undo(), fresh.undo());
        }
        Picture.of(fresh).stays(old, of + "undone", "octet(", "status(");
    }

    private static void ahead(String of, GardenChess old, GardenChess fresh) {
        for (int what = 0; what < 3; what++) {
            Bench.due(of + "sow(5, " + what + ")", old.sow(5, what), fresh.sow(5, what));
        }
        for (int field = 0; field < 6; field++) {
            Bench.due(of + "crop", old.crop(field, 4), fresh.crop(field, 4));
            Bench.due(of + "spare", old.spare(field, 1, 0), fresh.spare(field, 1, 0));
        }
        Bench.due(of + "deeper", old.deeper(0, 2, 4), fresh.deeper(0, 2, 4));
    }

    private static void act(String of, GardenChess old, GardenChess fresh, int turn) {
        if (turn == 0) {
            Bench.due(of + "play(0)", old.play(0), fresh.play(0));
        } else if (turn == 1) {
            Bench.due(of + "chance(3)", old.chance(3), fresh.chance(3));
        } else {
            Bench.due(of + "days(2)", old.days(2), fresh.days(2));
        }
    }
}
