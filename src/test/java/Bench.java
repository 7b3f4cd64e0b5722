/** What the tests share: feeding texts and bytes, and comparing answers with what is due. */
final class Bench {
    static final int NONE = GardenChess.NONE;
    static final long NOTHING = GardenChess.NOTHING;
    private static int wrong = 0;
    private static int compared = 0;

    private Bench() {
    }

    static void due(String what, long got, long want) {
        compared++;
        if (got != want) {
            wrong++;
            if (wrong <= 100) {
                System.out.println(what + " answered " + got + ", due is " + want);
            }
        }
    }

    static void due(String what, boolean got, boolean want) {
        due(what, got ? 1 : 0, want ? 1 : 0);
    }

    static void close(String test) {
        System.out.println(test + ": " + compared + " answers, " + wrong + " not as due");
        if (wrong != 0) {
            System.exit(1);
        }
    }

    static void tape(GardenChess x, int... bytes) {
        for (int from = 0; from < bytes.length; from += 20) {
            int[] numbers = new int[5];
            for (int k = 0; k < 20; k++) {
                int octet = from + k < bytes.length ? bytes[from + k] : 32;
                numbers[k / 4] = numbers[k / 4] << 8 | octet & 255;
            }
            x.feed(numbers[0], numbers[1], numbers[2], numbers[3], numbers[4]);
        }
        x.end(bytes.length);
    }

    static void text(GardenChess x, String text) {
        int[] bytes = new int[text.length()];
        for (int k = 0; k < bytes.length; k++) {
            bytes[k] = text.charAt(k);
        }
        tape(x, bytes);
    }

    static int board(GardenChess x, String text) {
        text(x, text);
        return x.board();
    }

    static long ask(GardenChess x, String text) {
        text(x, text);
        return x.ask();
    }

    static GardenChess on(String board) {
        GardenChess x = new GardenChess();
        due("board() of " + board, board(x, board) > 0, true);
        return x;
    }

    /** That a board's text has this FAULT at this place (0 and NONE: none). */
    static void faulty(String board, int fault, int place) {
        GardenChess x = new GardenChess();
        int told = board(x, board);
        String of = " of '" + board + "'";
        due("board()" + of, told == NONE, fault != 0);
        due("fault(0)" + of, x.fault(0), fault);
        due("fault(1)" + of, x.fault(1), place);
        due("status(1)" + of, x.status(1), fault != 0 ? 1 : 0);
        due("has(0)" + of, x.has(0) > 0, fault == 0);
    }

    /** That a question's text has this FAULT at this place. */
    static void faultyQuestion(GardenChess x, String question, int fault, int place) {
        String of = " of '" + question + "'";
        due("ask()" + of, ask(x, question) == NOTHING, fault != 0);
        due("fault(0)" + of, x.fault(0), fault);
        due("fault(1)" + of, x.fault(1), place);
    }

    static int[] image(GardenChess x) {
        int[] bytes = new int[x.image()];
        for (int k = 0; k < bytes.length; k++) {
            bytes[k] = x.octet(k);
        }
        return bytes;
    }

    /** Sets the last byte right by the bytes ahead of it. */
    static int[] marked(int... bytes) {
        int c = 59;
        for (int k = 0; k < bytes.length - 1; k++) {
            c = (3 * c + bytes[k]) % 251;
        }
        bytes[bytes.length - 1] = c;
        return bytes;
    }
}
