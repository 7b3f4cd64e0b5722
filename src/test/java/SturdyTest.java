import java.util.Random;

/** All promises: no call ever throws, whatever is asked in whatever state, and none changes by asking. */
public final class SturdyTest {
    private static final Random CHANCE = new Random(7);
    private static final int[] EDGES = {0, 1, 2, 3, 4, 5, 6, 7, 8, 9, 16, 20, 21, 30, 31, 40, 60, 99, 100, 255, 999, 1000,
        1600, -1, -2, Integer.MAX_VALUE, Integer.MIN_VALUE};
    private static final String[] PIECES = ("board kind man field harm grows sleepy by white black ways reach worth crown is of at"
        + " bears ; ; ; 0 1 2 3 12 999 12345 ( ) [ ] + - * / , < > = min max taken check off day number column row side moves or"
        + " and not all first last often total most least a b c d abcdefg ? \n").split(" ");

    public static void main(String[] args) {
        for (int run = 0; run < 400; run++) {
            GardenChess x = new GardenChess();
            for (int call = 0; call < 300; call++) {
                any(x);
            }
        }
        deepest();
        Bench.close("SturdyTest");
    }

    private static int edge() {
        return CHANCE.nextInt(20) == 0 ? CHANCE.nextInt() : EDGES[CHANCE.nextInt(CHANCE.nextBoolean() ? 8 : EDGES.length)];
    }

    private static void any(GardenChess x) {
        switch (CHANCE.nextInt(40)) {
            case 0: x.feed(CHANCE.nextInt(), CHANCE.nextInt(), edge(), edge(), edge()); break;
            case 1: x.end(edge()); break;
            case 2: x.board(); break;
            case 3: x.fault(edge()); break;
            case 4: x.has(edge()); break;
            case 5: x.letter(edge(), edge(), edge()); break;
            case 6: x.kind(edge(), edge()); break;
            case 7: x.man(edge(), edge()); break;
            case 8: x.field(edge(), edge()); break;
            case 9: x.at(edge(), edge()); break;
            case 10: x.option(edge(), edge()); break;
            case 11: x.kept(edge(), edge()); break;
            case 12: x.balance(edge()); break;
            case 13: x.value(CHANCE.nextInt(3)); break;
            case 14: x.best(edge() % 3); break;
            case 15: x.forced(); break;
            case 16: x.later(edge() % 8, edge()); break;
            case 17: x.crop(edge(), edge() % 8); break;
            case 18: x.spare(edge(), CHANCE.nextInt(4), edge()); break;
            case 19: x.sow(edge() % 8, edge()); break;
            case 20: x.deeper(edge(), edge(), edge() % 8); break;
            case 21: x.see(); break;
            case 22: x.played(edge()); break;
            case 23: x.reached(edge()); break;
            case 24: x.play(edge()); break;
            case 25: x.tend(edge(), edge()); break;
            case 26: x.days(edge()); break;
            case 27: x.chance(edge()); break;
            case 28: x.undo(); break;
            case 29: x.seed(edge()); break;
            case 30: x.ask(); break;
            case 31: x.image(); break;
            case 32: x.octet(edge()); break;
            case 33: x.on(); break;
            case 34: x.status(edge()); break;
            case 35: Bench.board(x, PlainModel.any(CHANCE).text); break;
            case 36: Bench.board(x, noise()); break;
            case 37: Bench.ask(x, "often " + noise()); break;
            case 38: Bench.ask(x, "most " + noise()); break;
            default: askingChangesNothing(x);
        }
    }

    private static String noise() {
        StringBuilder text = new StringBuilder(CHANCE.nextBoolean() ? "board 3 by 3 white 1 black 1;" : "");
        for (int i = CHANCE.nextInt(60); i > 0; i--) {
            text.append(PIECES[CHANCE.nextInt(PIECES.length)]).append(CHANCE.nextInt(4) > 0 ? " " : "");
        }
        return text.toString();
    }

    /** What only answers leaves all as it was, whatever it tries on the way. */
    private static void askingChangesNothing(GardenChess x) {
        int[] ahead = Bench.image(x);
        int acts = x.has(12);
        x.value(2);
        x.best(2);
        x.forced();
        x.later(3, 2);
        x.spare(0, 2, 0);
        x.sow(3, 0);
        x.deeper(0, 2, 3);
        x.played(0);
        x.option(0, 4);
        x.man(0, 4);
        int[] behind = Bench.image(x);
        Bench.due("length", behind.length, ahead.length);
        for (int k = 0; k < Math.min(ahead.length, behind.length); k++) {
            Bench.due("octet " + k, behind[k], ahead[k]);
        }
        Bench.due("has(12)", x.has(12), acts);
    }

    /** The dearest calls end: eight that go far on the greatest board, and the longest texts. */
    private static void deepest() {
        StringBuilder text = new StringBuilder("board 5 by 5 white 2 black 2;kind k ways 3 reach 4 worth 1;");
        for (int i = 0; i < 8; i++) {
            text.append("man m").append((char) ('a' + i)).append(" is k of ").append(i % 2).append(" at ");
            text.append(i % 4 + i % 2).append(' ').append(i / 2).append(';');
        }
        text.append("field f at 0 0 bears 999;harm 0");
        while (text.length() < 1590) {
            text.append("+taken");
        }
        text.append(';');
        GardenChess x = new GardenChess();
        Bench.due("board()", Bench.board(x, text.toString()), 12);
        Bench.due("value(3)", x.value(3) > Bench.NOTHING, true);
        Bench.due("best(3)", x.best(3) >= 0, true);
        Bench.due("spare(0, 6, 0)", x.spare(0, 6, 0) >= 0, true);
        Bench.due("sow(20, 2)", x.sow(20, 2) >= 0, true);
        Bench.due("deeper(0, 1, 20)", x.deeper(0, 1, 20) > Bench.NOTHING, true);
        Bench.due("days(30)", x.days(30) > 0, true);
        StringBuilder question = new StringBuilder("total 0");
        while (question.length() < 1590) {
            question.append("+1");
        }
        Bench.due("ask()", Bench.ask(x, question.toString()) > 0, true);
    }
}
