import java.util.Arrays;

/**
 * A year's weather at chess: a board told as a text, games of two gardeners on it, and what the
 * fields under its squares bear. The numbered promises of DOC.md say what each call answers.
 */
public final class GardenChess {
    public static final int NONE = -1;
    public static final long NOTHING = -1000000000000000L;

    private static final int TAPE_LENGTH = 1600;
    private static final int FED = 20;

    // On every board places are numbered row * WIDE + column, so that their order is row by row
    // and a set of places is the bits of an int, however small the board.
    private static final int WIDE = 5;
    private static final int PLACES = 25;

    private static final int KINDS = 5;
    private static final int MEN = 8;
    private static final int FIELDS = 6;
    private static final int NAMES = KINDS + MEN + FIELDS;
    private static final int STATEMENTS = 60;
    private static final int NAME_LETTERS = 6;
    private static final int LETTER_BITS = 5;
    private static final int LETTER_MASK = 31;
    private static final int DIGITS = 4;
    private static final int MOST_NUMBER = 9999;
    private static final int MOST_OPEN = 6;
    private static final int LAST_DAY = 999;
    private static final int MOST_BORNE = 999;
    private static final int EDGE = 1000000;
    private static final int MOST_HARM = 999999;

    private static final int AHEAD = 20;
    private static final int SPARED_DAYS = 6;
    private static final int ACT_DAYS = 30;
    private static final int DEEPEST = 3;
    private static final int SEEN_ROWS = 16;
    private static final int TOLD_KEPT = 40;
    private static final int UNDONE = 20;

    private static final int BYTE_NONE = 255;
    private static final int IMAGE_LENGTH = 3 + 2 * MEN + 2 * FIELDS + 1;
    private static final int IMAGE_START = 59;
    private static final int HUNDRED = 100;

    // Four straight ways, four aslant, eight leaps; of a KIND's ways the first and behind the last.
    private static final int[] TO_COLUMN = {1, -1, 0, 0, 1, 1, -1, -1, 1, 1, -1, -1, 2, 2, -2, -2};
    private static final int[] TO_ROW = {0, 0, 1, -1, 1, -1, 1, -1, 2, -2, 2, -2, 1, -1, 1, -1};
    private static final int[] FIRST_WAY = {0, 0, 4, 0, 8};
    private static final int[] BEHIND_WAY = {0, 4, 8, 8, 16};
    private static final int WAYS_LEAP = 4;

    private static final int FAULT_FORM = 1;
    private static final int FAULT_NUMBER = 2;
    private static final int FAULT_NAME = 3;
    private static final int FAULT_OPEN = 4;
    private static final int FAULT_MANY = 5;

    // The OWN WORDS, then the six words with which a QUESTION begins; a word's number is its
    // place here, and each ends with a blank.
    private static final String WORDS = "board by white black kind ways reach worth crown man is of at field bears harm grows sleepy taken check off day number column row side moves or and not all min max first last often total most least ";
    private static final int WORD_BOARD = 0;
    private static final int WORD_BY = 1;
    private static final int WORD_WHITE = 2;
    private static final int WORD_BLACK = 3;
    private static final int WORD_KIND = 4;
    private static final int WORD_WAYS = 5;
    private static final int WORD_REACH = 6;
    private static final int WORD_WORTH = 7;
    private static final int WORD_CROWN = 8;
    private static final int WORD_MAN = 9;
    private static final int WORD_IS = 10;
    private static final int WORD_OF = 11;
    private static final int WORD_AT = 12;
    private static final int WORD_FIELD = 13;
    private static final int WORD_BEARS = 14;
    private static final int WORD_HARM = 15;
    private static final int WORD_GROWS = 16;
    private static final int WORD_SLEEPY = 17;
    private static final int WORD_TAKEN = 18;
    private static final int WORD_CHECK = 19;
    private static final int WORD_OFF = 20;
    private static final int WORD_DAY = 21;
    private static final int WORD_NUMBER = 22;
    private static final int WORD_COLUMN = 23;
    private static final int WORD_ROW = 24;
    private static final int WORD_SIDE = 25;
    private static final int WORD_MOVES = 26;
    private static final int WORD_OR = 27;
    private static final int WORD_AND = 28;
    private static final int WORD_NOT = 29;
    private static final int WORD_ALL = 30;
    private static final int WORD_MIN = 31;
    private static final int WORD_MAX = 32;
    private static final int OWN_WORDS = 33;
    private static final int WORD_FIRST = 33;
    private static final int WORD_LAST = 34;
    private static final int WORD_OFTEN = 35;
    private static final int WORD_TOTAL = 36;
    private static final int WORD_MOST = 37;
    private static final int WORD_LEAST = 38;

    private static final int SORT_END = 0;
    private static final int SORT_WORD = 1;
    private static final int SORT_NUMBER = 2;
    private static final int SORT_SIGN = 3;
    private static final int SORT_WRONG = 4;

    // Steps of a Formula: a number from 0 on is itself, one from STEP_FACT down is the fact of
    // the word STEP_FACT - step.
    private static final int STEP_ADD = -1;
    private static final int STEP_LESSEN = -2;
    private static final int STEP_TIMES = -3;
    private static final int STEP_OVER = -4;
    private static final int STEP_MIN = -5;
    private static final int STEP_MAX = -6;
    private static final int STEP_BELOW = -7;
    private static final int STEP_ABOVE = -8;
    private static final int STEP_SAME = -9;
    private static final int STEP_AND = -10;
    private static final int STEP_OR = -11;
    private static final int STEP_NOT = -12;
    private static final int STEP_OFF = -13;
    private static final int STEP_FACT = -100;
    private static final int STACK = 64;

    private final Tape tape = new Tape();
    private final Reader reader = new Reader(tape);
    private final Teller teller = new Teller(reader);
    private Plan plan = new Plan();
    private Plan draft = new Plan();
    private final Formula question = new Formula();
    private final Game game = new Game(plan);
    private final Game trial = new Game(plan);
    private final Chronicle chronicle = new Chronicle();
    private final int[] seenField = new int[SEEN_ROWS];
    private final int[] seenBears = new int[SEEN_ROWS];
    private int seen = 0;
    private int drawn = 1;
    private int faultFound = 0;
    private int faultPlace = NONE;
    private final int[] refused = new int[6];
    private final int[] written = new int[IMAGE_LENGTH];
    private int writtenLength = 0;
    private final int[] aim = new int[MEN];
    private final int[] harmAt = new int[PLACES];

    public GardenChess() {
    }

    public int feed(int a, int b, int c, int d, int e) {
        if (tape.length + FED > TAPE_LENGTH) {
            return refuse(0);
        }
        tape.add(a);
        tape.add(b);
        tape.add(c);
        tape.add(d);
        tape.add(e);
        return tape.length;
    }

    public boolean end(int n) {
        if (n < 0 || n > tape.length) {
            refuse(0);
            return false;
        }
        tape.length = n;
        return true;
    }

    public int board() {
        int statements = teller.tell(draft);
        tape.length = 0;
        noteFault();
        if (faultFound != 0) {
            return refuse(1);
        }
        Plan told = draft;
        draft = plan;
        plan = told;
        game.begin(told);
        trial.begin(told);
        chronicle.forget();
        seen = 0;
        return statements;
    }

    public int fault(int what) {
        if (what == 0) {
            return faultFound;
        }
        return what == 1 ? faultPlace : NONE;
    }

    public int has(int what) {
        switch (what) {
            case 0: return plan.columns;
            case 1: return plan.rows;
            case 2: return plan.kinds;
            case 3: return plan.men;
            case 4: return plan.fields;
            case 5: return game.day;
            case 6: return game.side;
            case 7: return isTold() && game.isOver() ? 1 : 0;
            case 8: return plan.men - game.menOf(0) - game.menOf(1);
            case 9: return game.borne();
            case 10: return chronicle.told();
            case 11: return seen;
            case 12: return chronicle.acts;
            default: return NONE;
        }
    }

    public int letter(int kind, int which, int k) {
        if (k < 0 || k >= NAME_LETTERS || which < 0) {
            return NONE;
        }
        switch (kind) {
            case 0: return which < plan.kinds ? letterOf(plan.names[which], k) : NONE;
            case 1: return which < plan.men ? letterOf(plan.names[KINDS + which], k) : NONE;
            case 2: return which < plan.fields ? letterOf(plan.names[KINDS + MEN + which], k) : NONE;
            default: return NONE;
        }
    }

    public int kind(int kind, int what) {
        if (kind < 0 || kind >= plan.kinds) {
            return NONE;
        }
        switch (what) {
            case 0: return plan.ways[kind];
            case 1: return plan.reach[kind];
            case 2: return plan.worth[kind];
            case 3: return plan.crown[kind];
            default: return NONE;
        }
    }

    public int man(int man, int what) {
        if (man < 0 || man >= plan.men) {
            return NONE;
        }
        int place = game.places[man];
        switch (what) {
            case 0: return place < 0 ? NONE : place % WIDE;
            case 1: return place < 0 ? NONE : place / WIDE;
            case 2: return plan.kindOf[man];
            case 3: return plan.sideOf[man];
            case 4: return Integer.bitCount(game.goals(man));
            default: return NONE;
        }
    }

    public int field(int field, int what) {
        if (!isField(field)) {
            return NONE;
        }
        switch (what) {
            case 0: return plan.fieldAt[field] % WIDE;
            case 1: return plan.fieldAt[field] / WIDE;
            case 2: return game.bears[field];
            default: return NONE;
        }
    }

    public int at(int column, int row) {
        return plan.isPlace(column, row) ? game.standing[row * WIDE + column] : NONE;
    }

    public int option(int k, int what) {
        int move = game.moveAt(k);
        if (move < 0 || what < 0 || what > 4) {
            return NONE;
        }
        int to = placeOfMove(move);
        switch (what) {
            case 0: return manOfMove(move);
            case 1: return to % WIDE;
            case 2: return to / WIDE;
            case 3: return byteOfMan(game.standing[to]);
            default:
                trial.copy(game);
                trial.strike(move);
                return trial.check;
        }
    }

    public int kept(int k, int what) {
        return chronicle.tell(k, what);
    }

    // ---- play

    public long balance(int side) {
        return isTold() && isSide(side) ? game.balanceOf(side) : NOTHING;
    }

    public long value(int deep) {
        return isTold() && deep >= 0 && deep <= DEEPEST ? game.outlook(game.side, deep) : NOTHING;
    }

    public int best(int deep) {
        return deep >= 1 && deep <= DEEPEST ? game.numberOf(game.bestMove(deep)) : NONE;
    }

    public int forced() {
        return game.forcedBy();
    }

    // ---- ahead

    public int later(int n, int what) {
        if (what < 0 || what > 3 || !canCome(n, 0, AHEAD)) {
            return NONE;
        }
        trial.copy(game);
        trial.passDays(n);
        switch (what) {
            case 0: return trial.menOf(0);
            case 1: return trial.menOf(1);
            case 2: return trial.borne();
            default: return trial.isOver() ? 1 : 0;
        }
    }

    public int crop(int field, int n) {
        if (!isField(field) || !canCome(n, 0, AHEAD)) {
            return NONE;
        }
        trial.copy(game);
        trial.passDays(n);
        return trial.bears[field];
    }

    public int spare(int field, int n, int what) {
        if (!isField(field) || what < 0 || what > 1 || !canCome(n, 1, SPARED_DAYS)) {
            return NONE;
        }
        int moves = game.moveCount();
        int best = NONE;
        int most = NONE;
        for (int k = 0; k < moves; k++) {
            trial.copy(game);
            trial.passDay(game.moveAt(k));
            trial.passDays(n - 1);
            if (trial.bears[field] > most) {
                best = k;
                most = trial.bears[field];
            }
        }
        return what == 0 ? best : most;
    }

    public int sow(int n, int what) {
        if (what < 0 || what > 2 || !canCome(n, 0, AHEAD)) {
            return NONE;
        }
        gatherHarm(n);
        int least = leastHarmed();
        switch (what) {
            case 0: return least % WIDE;
            case 1: return least / WIDE;
            default: return Math.min(harmAt[least], MOST_HARM);
        }
    }

    public long deeper(int side, int deep, int n) {
        if (!isSide(side) || deep < 1 || deep > 2 || !canCome(n, 0, AHEAD)) {
            return NOTHING;
        }
        trial.copy(game);
        trial.passDays(n);
        int asTold = trial.borne();
        trial.copy(game);
        trial.deep[side] = deep;
        trial.passDays(n);
        return trial.borne() - asTold;
    }

    // ---- which game it was

    public int see() {
        int rows = tape.length / 3;
        boolean right = rows >= 1 && rows <= SEEN_ROWS && rows * 3 == tape.length;
        for (int i = 0; right && i < rows; i++) {
            right = isField(tape.byteAt(3 * i));
        }
        if (right) {
            for (int i = 0; i < rows && i < SEEN_ROWS; i++) {
                seenField[i] = tape.byteAt(3 * i);
                seenBears[i] = tape.pairAt(3 * i + 1);
            }
            seen = rows;
        }
        tape.length = 0;
        return right ? rows : refuse(1);
    }

    public int played(int what) {
        if (what < 0 || what > 2) {
            return NONE;
        }
        int moves = game.moveCount();
        int many = 0;
        int first = NONE;
        int last = NONE;
        for (int k = 0; k < moves; k++) {
            if (isAsSeen(k)) {
                many++;
                first = first < 0 ? k : first;
                last = k;
            }
        }
        if (what == 0) {
            return many;
        }
        return what == 1 ? first : last;
    }

    public int reached(int n) {
        boolean right = isTold() && n >= 0 && n <= 3 && tape.length == 2 * plan.men && readPlaces(0);
        tape.length = 0;
        return right ? game.waysTo(aim, game.side, n) : refuse(1);
    }

    // ---- acts

    public int play(int k) {
        int move = game.moveAt(k);
        if (move < 0 || game.day >= LAST_DAY) {
            return refuse(2);
        }
        chronicle.remember(game);
        return byteOfMan(actDay(move));
    }

    public int tend(int field, int more) {
        if (!isField(field) || more < 1 || more > 99) {
            return refuse(2);
        }
        chronicle.remember(game);
        game.bears[field] = Math.min(MOST_BORNE, game.bears[field] + more);
        return game.bears[field];
    }

    public int days(int n) {
        if (!canCome(n, 1, ACT_DAYS)) {
            return refuse(3);
        }
        chronicle.remember(game);
        int moves = 0;
        for (int i = 0; i < n; i++) {
            int move = game.bestMove(game.depth());
            moves += move < 0 ? 0 : 1;
            actDay(move);
        }
        return moves;
    }

    public int chance(int n) {
        if (!canCome(n, 1, ACT_DAYS)) {
            return refuse(3);
        }
        chronicle.remember(game);
        int sleepy = 0;
        for (int i = 0; i < n; i++) {
            int moves = game.moveCount();
            if (moves > 0 && draw(HUNDRED) < plan.sleepy) {
                sleepy++;
                actDay(game.moveAt(draw(moves)));
            } else {
                actDay(game.bestMove(game.depth()));
            }
        }
        return sleepy;
    }

    public boolean undo() {
        if (chronicle.takeBack(game)) {
            return true;
        }
        refuse(4);
        return false;
    }

    public boolean seed(int seed) {
        if (seed < 0) {
            refuse(5);
            return false;
        }
        drawn = seed;
        return true;
    }

    // ---- questions

    public long ask() {
        if (!isTold()) {
            tape.length = 0;
            return NOTHING;
        }
        int asked = teller.question(question);
        tape.length = 0;
        noteFault();
        return faultFound != 0 ? NOTHING : answer(asked);
    }

    // ---- images, refusals

    public int image() {
        writtenLength = 0;
        writePair(game.day);
        write(game.side);
        for (int man = 0; man < plan.men; man++) {
            int place = game.places[man];
            write(place < 0 ? BYTE_NONE : place % WIDE);
            write(place < 0 ? BYTE_NONE : place / WIDE);
        }
        for (int field = 0; field < plan.fields; field++) {
            writePair(game.bears[field]);
        }
        int mark = IMAGE_START;
        for (int k = 0; k < writtenLength; k++) {
            mark = marked(mark, written[k]);
        }
        write(mark);
        return writtenLength;
    }

    public int octet(int k) {
        return k >= 0 && k < writtenLength ? written[k] : NONE;
    }

    public boolean on() {
        boolean right = isTold() && isImage() && readPlaces(3);
        if (right) {
            takeImage();
        } else {
            refuse(5);
        }
        tape.length = 0;
        return right;
    }

    public int status(int what) {
        return what >= 0 && what < refused.length ? refused[what] : NONE;
    }

    // ---- what the calls share

    private int refuse(int what) {
        refused[what]++;
        return NONE;
    }

    private void noteFault() {
        faultFound = reader.faultFound;
        faultPlace = reader.faultPlace;
    }

    private boolean isTold() {
        return plan.columns > 0;
    }

    private boolean isField(int field) {
        return field >= 0 && field < plan.fields;
    }

    private static boolean isSide(int side) {
        return side == 0 || side == 1;
    }

    /** Whether n DAYS can come from now on: from least to most, and not beyond the last DAY. */
    private boolean canCome(int n, int least, int most) {
        return isTold() && n >= least && n <= most && game.day + n <= LAST_DAY;
    }

    private static int letterOf(int name, int k) {
        return name >> (LETTER_BITS * k) & LETTER_MASK;
    }

    private static int byteOfMan(int man) {
        return man < 0 ? BYTE_NONE : man;
    }

    private static int moveOf(int man, int place) {
        return man * PLACES + place;
    }

    private static int manOfMove(int move) {
        return move / PLACES;
    }

    private static int placeOfMove(int move) {
        return move % PLACES;
    }

    /** How far two places are from each other: the greater of columns and rows between. */
    private static int farness(int one, int other) {
        int columns = Math.abs(one % WIDE - other % WIDE);
        int rows = Math.abs(one / WIDE - other / WIDE);
        return Math.max(columns, rows);
    }

    private static int marked(int mark, int octet) {
        return (3 * mark + octet) % 251;
    }

    /** A DAY of the game with that MOVE (NONE without one), KEPT: the man TAKEN, NONE without. */
    private int actDay(int move) {
        int day = game.day;
        int taken = game.passDay(move);
        if (move >= 0) {
            chronicle.keep(day, move, byteOfMan(taken));
        }
        return taken;
    }

    private int draw(int m) {
        drawn = (int) ((1103515245L * drawn + 12345L) & 0x7fffffffL);
        return m > 0 ? drawn / 64 % m : 0;
    }

    private void gatherHarm(int n) {
        Arrays.fill(harmAt, 0);
        trial.copy(game);
        for (int i = 0; i < n; i++) {
            int move = trial.bestMove(trial.depth());
            if (move >= 0) {
                trial.strike(move);
                addHarm();
                trial.wither();
            }
            trial.turn();
        }
    }

    private void addHarm() {
        for (int place = 0; place < PLACES; place++) {
            if (plan.isPlace(place % WIDE, place / WIDE)) {
                harmAt[place] += trial.harmTo(place);
            }
        }
    }

    private int leastHarmed() {
        int least = 0;
        for (int place = 0; place < PLACES; place++) {
            if (plan.isPlace(place % WIDE, place / WIDE) && harmAt[place] < harmAt[least]) {
                least = place;
            }
        }
        return least;
    }

    private boolean isAsSeen(int k) {
        trial.copy(game);
        trial.passDay(game.moveAt(k));
        for (int i = 0; i < seen && i < SEEN_ROWS; i++) {
            int field = seenField[i];
            if (!isField(field) || trial.bears[field] != seenBears[i]) {
                return false;
            }
        }
        return true;
    }

    /** Reads a place for each MAN off the tape into aim; false when they can't be. */
    private boolean readPlaces(int from) {
        int held = 0;
        for (int man = 0; man < plan.men; man++) {
            int column = tape.byteAt(from + 2 * man);
            int row = tape.byteAt(from + 2 * man + 1);
            if (column == BYTE_NONE && row == BYTE_NONE) {
                aim[man] = NONE;
                continue;
            }
            if (!plan.isPlace(column, row)) {
                return false;
            }
            int place = row * WIDE + column;
            if ((held >> place & 1) != 0) {
                return false;
            }
            held |= 1 << place;
            aim[man] = place;
        }
        return true;
    }

    private boolean isImage() {
        int fieldsFrom = 3 + 2 * plan.men;
        int markAt = fieldsFrom + 2 * plan.fields;
        if (tape.length != markAt + 1 || tape.pairAt(0) > LAST_DAY || !isSide(tape.byteAt(2))) {
            return false;
        }
        int mark = IMAGE_START;
        for (int k = 0; k < markAt; k++) {
            mark = marked(mark, tape.byteAt(k));
        }
        for (int field = 0; field < plan.fields; field++) {
            if (tape.pairAt(fieldsFrom + 2 * field) > MOST_BORNE) {
                return false;
            }
        }
        return mark == tape.byteAt(markAt);
    }

    private void takeImage() {
        game.day = tape.pairAt(0);
        game.side = tape.byteAt(2);
        for (int man = 0; man < plan.men; man++) {
            game.places[man] = aim[man];
        }
        for (int field = 0; field < plan.fields; field++) {
            game.bears[field] = tape.pairAt(3 + 2 * plan.men + 2 * field);
        }
        game.settle();
        chronicle.forget();
    }

    private void write(int octet) {
        if (writtenLength < written.length) {
            written[writtenLength] = octet;
            writtenLength++;
        }
    }

    private void writePair(int number) {
        write(number / 256);
        write(number % 256);
    }

    /** The answer of the QUESTION that was read, of all MEN that are not TAKEN. */
    private long answer(int asked) {
        int first = NONE;
        int last = NONE;
        int men = 0;
        long total = 0;
        int most = 0;
        int least = 0;
        for (int man = 0; man < plan.men; man++) {
            if (game.places[man] < 0) {
                continue;
            }
            int found = game.answerOf(question, man);
            most = men == 0 ? found : Math.max(most, found);
            least = men == 0 ? found : Math.min(least, found);
            men++;
            total += found;
            if (found != 0) {
                first = first < 0 ? man : first;
                last = man;
            }
        }
        switch (asked) {
            case WORD_FIRST: return first;
            case WORD_LAST: return last;
            case WORD_MOST: return most;
            case WORD_LEAST: return least;
            default: return total;
        }
    }

    /** The bytes that were fed. */
    private static final class Tape {
        final byte[] bytes = new byte[TAPE_LENGTH];
        int length = 0;

        void add(int number) {
            for (int shift = 24; shift >= 0; shift -= 8) {
                if (length < bytes.length) {
                    bytes[length] = (byte) (number >> shift);
                    length++;
                }
            }
        }

        int byteAt(int k) {
            return k >= 0 && k < length && k < bytes.length ? bytes[k] & 255 : 0;
        }

        int pairAt(int k) {
            return 256 * byteAt(k) + byteAt(k + 1);
        }
    }

    /** Reads the tape word by word, and holds the first FAULT; behind one nothing is read. */
    private static final class Reader {
        final Tape tape;
        int from = 0;
        int behind = 0;
        int sort = SORT_END;
        int word = NONE;
        int faultFound = 0;
        int faultPlace = NONE;

        Reader(Tape tape) {
            this.tape = tape;
        }

        void open() {
            from = 0;
            behind = 0;
            sort = SORT_END;
            faultFound = 0;
            faultPlace = NONE;
            step();
        }

        void fail(int fault, int place) {
            if (faultFound == 0) {
                faultFound = fault;
                faultPlace = place;
                sort = SORT_WRONG;
            }
        }

        void failForm() {
            fail(FAULT_FORM, from);
        }

        /** Goes to what stands behind the word, number or sign at hand. */
        void step() {
            if (faultFound != 0) {
                return;
            }
            boolean needsBlank = sort == SORT_WORD || sort == SORT_NUMBER;
            from = behind;
            while (from < tape.length && isBlank(tape.byteAt(from))) {
                from++;
            }
            needsBlank = needsBlank && from == behind;
            sort = from < tape.length ? sortOf(tape.byteAt(from)) : SORT_END;
            behind = sort == SORT_END ? from : from + 1;
            while (sort != SORT_SIGN && behind < tape.length && sortOf(tape.byteAt(behind)) == sort) {
                behind++;
            }
            word = sort == SORT_WORD ? numberOfWord() : NONE;
            if (needsBlank && (sort == SORT_WORD || sort == SORT_NUMBER)) {
                sort = SORT_WRONG;
            }
        }

        private int numberOfWord() {
            int number = 0;
            int k = from;
            boolean alike = true;
            for (int i = 0; i < WORDS.length(); i++) {
                char sign = WORDS.charAt(i);
                if (sign == ' ') {
                    if (alike && k == behind) {
                        return number;
                    }
                    number++;
                    k = from;
                    alike = true;
                } else if (alike) {
                    alike = k < behind && k < tape.bytes.length && tape.bytes[k] == sign;
                    k++;
                }
            }
            return NONE;
        }

        boolean isWord(int asked) {
            return sort == SORT_WORD && word == asked;
        }

        boolean isSign(char asked) {
            return sort == SORT_SIGN && tape.byteAt(from) == asked;
        }

        void takeWord(int asked) {
            if (isWord(asked)) {
                step();
            } else {
                failForm();
            }
        }

        void takeSign(char asked) {
            if (isSign(asked)) {
                step();
            } else {
                failForm();
            }
        }

        /** A number from least to most; least with a FAULT. */
        int takeNumber(int least, int most) {
            if (sort != SORT_NUMBER) {
                failForm();
                return least;
            }
            if (behind - from > DIGITS) {
                fail(FAULT_FORM, from + DIGITS);
                return least;
            }
            int number = 0;
            for (int k = from; k < behind; k++) {
                number = 10 * number + tape.byteAt(k) - '0';
            }
            if (number < least || number > most) {
                fail(FAULT_NUMBER, from);
                return least;
            }
            step();
            return number;
        }

        /** The NAME at hand; NONE with a FAULT. */
        int nameAtHand() {
            if (sort != SORT_WORD || (word >= 0 && word < OWN_WORDS)) {
                fail(FAULT_FORM, from);
                return NONE;
            }
            if (behind - from > NAME_LETTERS) {
                fail(FAULT_FORM, from + NAME_LETTERS);
                return NONE;
            }
            int name = 0;
            for (int k = behind - 1; k >= from; k--) {
                name = name << LETTER_BITS | (tape.byteAt(k) - 'a' + 1);
            }
            return name;
        }

        private static boolean isBlank(int sign) {
            return sign == 10 || sign == 32;
        }

        private static int sortOf(int sign) {
            if (sign >= 'a' && sign <= 'z') {
                return SORT_WORD;
            }
            return sign >= '0' && sign <= '9' ? SORT_NUMBER : SORT_SIGN;
        }
    }

    /** A SUM or a TEST as steps on a stack. */
    private static final class Formula {
        final int[] steps = new int[TAPE_LENGTH];
        int size = 0;

        void put(int step) {
            if (size < steps.length) {
                steps[size] = step;
                size++;
            }
        }
    }

    /** Reckons a Formula by the facts of one move, or of one MAN. */
    private static final class Reckoner {
        final int[] facts = new int[OWN_WORDS];
        final int[] far = new int[FIELDS];
        private final int[] stack = new int[STACK];
        private int height = 0;

        int reckon(Formula formula) {
            height = 0;
            for (int i = 0; i < formula.size && i < formula.steps.length; i++) {
                int step = formula.steps[i];
                if (step >= 0) {
                    push(step);
                } else if (step <= STEP_FACT) {
                    push(fact(STEP_FACT - step));
                } else if (step == STEP_NOT) {
                    push(1 - pop());
                } else if (step == STEP_OFF) {
                    int field = pop();
                    push(field >= 0 && field < FIELDS ? far[field] : 0);
                } else {
                    int right = pop();
                    int left = pop();
                    push(joined(step, left, right));
                }
            }
            return pop();
        }

        private static int joined(int step, int left, int right) {
            switch (step) {
                case STEP_ADD: return Math.max(-EDGE, Math.min(EDGE, left + right));
                case STEP_LESSEN: return Math.max(-EDGE, Math.min(EDGE, left - right));
                case STEP_TIMES: return (int) Math.max(-EDGE, Math.min(EDGE, (long) left * right));
                case STEP_OVER: return right == 0 ? 0 : Math.floorDiv(left, right);
                case STEP_MIN: return Math.min(left, right);
                case STEP_MAX: return Math.max(left, right);
                case STEP_BELOW: return left < right ? 1 : 0;
                case STEP_ABOVE: return left > right ? 1 : 0;
                case STEP_SAME: return left == right ? 1 : 0;
                case STEP_AND: return left & right;
                default: return left | right;
            }
        }

        private int fact(int word) {
            return word >= 0 && word < facts.length ? facts[word] : 0;
        }

        private void push(int number) {
            if (height < stack.length) {
                stack[height] = number;
                height++;
            }
        }

        private int pop() {
            if (height <= 0 || height > stack.length) {
                return 0;
            }
            height--;
            return stack[height];
        }
    }

    /** Reads SUMS and TESTS into a Formula; open is how many of ( [ not off are open. */
    private static final class Composer {
        private final Reader reader;
        private Formula formula = null;
        private boolean ofMen = false;

        Composer(Reader reader) {
            this.reader = reader;
        }

        /** Begins a Formula: of a MAN for a QUESTION, else of a move and a FIELD for harm. */
        void start(Formula begun, boolean forMen) {
            begun.size = 0;
            formula = begun;
            ofMen = forMen;
        }

        private void put(int step) {
            if (formula != null) {
                formula.put(step);
            }
        }

        void sum(int open) {
            product(open);
            for (int i = 0; i < TAPE_LENGTH && (reader.isSign('+') || reader.isSign('-')); i++) {
                int step = reader.isSign('+') ? STEP_ADD : STEP_LESSEN;
                reader.step();
                product(open);
                put(step);
            }
        }

        private void product(int open) {
            part(open);
            for (int i = 0; i < TAPE_LENGTH && (reader.isSign('*') || reader.isSign('/')); i++) {
                int step = reader.isSign('*') ? STEP_TIMES : STEP_OVER;
                reader.step();
                part(open);
                put(step);
            }
        }

        private void part(int open) {
            if (reader.sort == SORT_NUMBER) {
                put(reader.takeNumber(0, MOST_NUMBER));
            } else if (reader.isSign('(')) {
                if (opens(open)) {
                    sum(open + 1);
                    reader.takeSign(')');
                }
            } else if (reader.isWord(WORD_MIN)) {
                pair(open, STEP_MIN);
            } else if (reader.isWord(WORD_MAX)) {
                pair(open, STEP_MAX);
            } else if (ofMen && reader.isWord(WORD_OFF)) {
                if (opens(open)) {
                    part(open + 1);
                    put(STEP_OFF);
                }
            } else if (reader.sort == SORT_WORD && isFact(reader.word)) {
                put(STEP_FACT - reader.word);
                reader.step();
            } else {
                reader.failForm();
            }
        }

        private void pair(int open, int step) {
            reader.step();
            if (!reader.isSign('(')) {
                reader.failForm();
            } else if (opens(open)) {
                sum(open + 1);
                reader.takeSign(',');
                sum(open + 1);
                reader.takeSign(')');
                put(step);
            }
        }

        /** Steps over what opens at hand, unless too many are open. */
        private boolean opens(int open) {
            if (open >= MOST_OPEN) {
                reader.fail(FAULT_OPEN, reader.from);
                return false;
            }
            reader.step();
            return true;
        }

        private boolean isFact(int word) {
            if (!ofMen) {
                return word >= WORD_TAKEN && word <= WORD_DAY;
            }
            return (word >= WORD_DAY && word <= WORD_MOVES) || word == WORD_WORTH || word == WORD_REACH;
        }

        void test(int open) {
            both(open);
            for (int i = 0; i < TAPE_LENGTH && reader.isWord(WORD_OR); i++) {
                reader.step();
                both(open);
                put(STEP_OR);
            }
        }

        private void both(int open) {
            truth(open);
            for (int i = 0; i < TAPE_LENGTH && reader.isWord(WORD_AND); i++) {
                reader.step();
                truth(open);
                put(STEP_AND);
            }
        }

        private void truth(int open) {
            if (reader.isWord(WORD_NOT)) {
                if (opens(open)) {
                    truth(open + 1);
                    put(STEP_NOT);
                }
            } else if (reader.isSign('[')) {
                if (opens(open)) {
                    test(open + 1);
                    reader.takeSign(']');
                }
            } else if (reader.isWord(WORD_ALL)) {
                put(1);
                reader.step();
            } else {
                sum(open);
                int step = comparing();
                reader.step();
                sum(open);
                put(step);
            }
        }

        private int comparing() {
            if (reader.isSign('<')) {
                return STEP_BELOW;
            }
            if (reader.isSign('>')) {
                return STEP_ABOVE;
            }
            if (!reader.isSign('=')) {
                reader.failForm();
            }
            return STEP_SAME;
        }
    }

    /** Reads a BOARD, STATEMENT by STATEMENT, or a QUESTION. */
    private static final class Teller {
        private final Reader reader;
        private final Composer composer;

        Teller(Reader reader) {
            this.reader = reader;
            this.composer = new Composer(reader);
        }

        /** How many STATEMENTS there are. */
        int tell(Plan plan) {
            plan.empty();
            reader.open();
            int statements = 0;
            for (int i = 0; i <= STATEMENTS && reader.sort != SORT_END && reader.faultFound == 0; i++) {
                if (i == STATEMENTS) {
                    reader.fail(FAULT_MANY, reader.from);
                } else if (i == 0) {
                    size(plan);
                } else {
                    statement(plan);
                }
                reader.takeSign(';');
                statements++;
            }
            if (statements == 0) {
                reader.failForm();
            }
            return statements;
        }

        private void size(Plan plan) {
            reader.takeWord(WORD_BOARD);
            plan.columns = reader.takeNumber(2, WIDE);
            reader.takeWord(WORD_BY);
            plan.rows = reader.takeNumber(2, WIDE);
            reader.takeWord(WORD_WHITE);
            plan.deep[0] = reader.takeNumber(1, 2);
            reader.takeWord(WORD_BLACK);
            plan.deep[1] = reader.takeNumber(1, 2);
        }

        private void statement(Plan plan) {
            switch (reader.sort == SORT_WORD ? reader.word : NONE) {
                case WORD_KIND:
                    newKind(plan);
                    break;
                case WORD_MAN:
                    newMan(plan);
                    break;
                case WORD_FIELD:
                    newField(plan);
                    break;
                case WORD_HARM:
                    if (begins(plan.harms, 1)) {
                        plan.harms = 1;
                        composer.start(plan.harm, false);
                        composer.sum(0);
                    }
                    break;
                case WORD_GROWS:
                    reader.step();
                    plan.grows = reader.takeNumber(0, 99);
                    break;
                case WORD_SLEEPY:
                    reader.step();
                    plan.sleepy = reader.takeNumber(0, 100);
                    break;
                default:
                    reader.failForm();
            }
        }

        /** Steps over the word with which a STATEMENT begins, if there may be one more such. */
        private boolean begins(int many, int most) {
            if (many >= most) {
                reader.fail(FAULT_MANY, reader.from);
                return false;
            }
            reader.step();
            return true;
        }

        private void newKind(Plan plan) {
            int kind = plan.kinds;
            if (!begins(kind, KINDS)) {
                return;
            }
            newName(plan, kind);
            reader.takeWord(WORD_WAYS);
            plan.ways[kind] = reader.takeNumber(1, WAYS_LEAP);
            reader.takeWord(WORD_REACH);
            plan.reach[kind] = reader.takeNumber(1, 4);
            reader.takeWord(WORD_WORTH);
            plan.worth[kind] = reader.takeNumber(0, 99);
            boolean crown = reader.isWord(WORD_CROWN);
            if (crown) {
                reader.step();
            }
            plan.crown[kind] = crown ? 1 : 0;
            plan.kinds = kind + 1;
        }

        private void newMan(Plan plan) {
            int man = plan.men;
            if (!begins(man, MEN)) {
                return;
            }
            newName(plan, KINDS + man);
            reader.takeWord(WORD_IS);
            plan.kindOf[man] = takeKind(plan);
            reader.takeWord(WORD_OF);
            plan.sideOf[man] = reader.takeNumber(0, 1);
            reader.takeWord(WORD_AT);
            int column = reader.takeNumber(0, plan.columns - 1);
            int rowAt = reader.from;
            int row = reader.takeNumber(0, plan.rows - 1);
            int place = row * WIDE + column;
            if (plan.isHeld(place)) {
                reader.fail(FAULT_NUMBER, rowAt);
            }
            plan.manAt[man] = place;
            plan.men = man + 1;
        }

        private void newField(Plan plan) {
            int field = plan.fields;
            if (!begins(field, FIELDS)) {
                return;
            }
            newName(plan, KINDS + MEN + field);
            reader.takeWord(WORD_AT);
            int column = reader.takeNumber(0, plan.columns - 1);
            int row = reader.takeNumber(0, plan.rows - 1);
            reader.takeWord(WORD_BEARS);
            plan.fieldAt[field] = row * WIDE + column;
            plan.fieldBears[field] = reader.takeNumber(1, MOST_BORNE);
            plan.fields = field + 1;
        }

        private void newName(Plan plan, int slot) {
            int name = reader.nameAtHand();
            if (plan.slotOf(name, NAMES) >= 0) {
                reader.fail(FAULT_NAME, reader.from);
            }
            plan.names[slot] = name;
            reader.step();
        }

        /** The KIND whose NAME stands at hand; 0, when there is a FAULT. */
        private int takeKind(Plan plan) {
            int kind = plan.slotOf(reader.nameAtHand(), KINDS);
            if (kind < 0) {
                reader.fail(FAULT_NAME, reader.from);
            }
            reader.step();
            return Math.max(0, kind);
        }

        /** Reads a QUESTION: the word with which it begins. */
        int question(Formula formula) {
            reader.open();
            composer.start(formula, true);
            int asked = reader.sort == SORT_WORD ? reader.word : NONE;
            if (asked >= WORD_FIRST && asked <= WORD_OFTEN) {
                reader.step();
                composer.test(0);
            } else if (asked >= WORD_TOTAL && asked <= WORD_LEAST) {
                reader.step();
                composer.sum(0);
            }
            if (asked < WORD_FIRST || reader.sort != SORT_END) {
                reader.failForm();
            }
            return asked;
        }
    }

    /** A BOARD as it was told; without columns there is none. */
    private static final class Plan {
        int columns = 0;
        int rows = 0;
        final int[] deep = new int[2];
        int kinds = 0;
        final int[] ways = new int[KINDS];
        final int[] reach = new int[KINDS];
        final int[] worth = new int[KINDS];
        final int[] crown = new int[KINDS];
        int men = 0;
        final int[] kindOf = new int[MEN];
        final int[] sideOf = new int[MEN];
        final int[] manAt = new int[MEN];
        int fields = 0;
        final int[] fieldAt = new int[FIELDS];
        final int[] fieldBears = new int[FIELDS];
        // Of KINDS, then of MEN, then of FIELDS; in each the first letter, 1 .. 26, is lowest.
        final int[] names = new int[NAMES];
        final Formula harm = new Formula();
        int harms = 0;
        int grows = 0;
        int sleepy = 0;

        void empty() {
            columns = 0;
            rows = 0;
            kinds = 0;
            men = 0;
            fields = 0;
            harms = 0;
            grows = 0;
            sleepy = 0;
            Arrays.fill(names, 0);
        }

        boolean isPlace(int column, int row) {
            return column >= 0 && column < columns && row >= 0 && row < rows;
        }

        boolean isHeld(int place) {
            for (int man = 0; man < men && man < MEN; man++) {
                if (manAt[man] == place) {
                    return true;
                }
            }
            return false;
        }

        /** Which of the first NAMES, so many, this one is; else NONE. */
        int slotOf(int name, int many) {
            for (int slot = 0; slot < many && slot < NAMES; slot++) {
                if (names[slot] == name) {
                    return slot;
                }
            }
            return NONE;
        }

        int worthOf(int man) {
            return man >= 0 && man < men ? worth[kindOf[man]] : 0;
        }

        boolean isCrown(int man) {
            return man >= 0 && man < men && crown[kindOf[man]] == 1;
        }
    }

    /** A game on a BOARD: where all stands, what FIELDS bear, and what can come of it. */
    private static final class Game {
        private Plan plan;
        int day = 0;
        int side = 0;
        final int[] deep = new int[2];
        final int[] places = new int[MEN];
        final int[] bears = new int[FIELDS];

        // These follow from the ones above: settle() finds them, and moves keep them so.
        final int[] standing = new int[PLACES];
        private final int[] held = new int[2];
        private int lead = 0;
        private int crownsTaken = 0;

        private final Reckoner reckoner = new Reckoner();
        private int worthTaken = 0;
        private int movedTo = 0;
        int check = 0;

        Game(Plan plan) {
            this.plan = plan;
            settle();
        }

        void begin(Plan told) {
            plan = told;
            day = 0;
            side = 0;
            deep[0] = told.deep[0];
            deep[1] = told.deep[1];
            for (int man = 0; man < told.men; man++) {
                places[man] = told.manAt[man];
            }
            for (int field = 0; field < told.fields; field++) {
                bears[field] = told.fieldBears[field];
            }
            settle();
        }

        void copy(Game other) {
            plan = other.plan;
            day = other.day;
            side = other.side;
            deep[0] = other.deep[0];
            deep[1] = other.deep[1];
            System.arraycopy(other.places, 0, places, 0, MEN);
            System.arraycopy(other.bears, 0, bears, 0, FIELDS);
            settle();
        }

        void settle() {
            Arrays.fill(standing, NONE);
            held[0] = 0;
            held[1] = 0;
            lead = 0;
            crownsTaken = 0;
            for (int man = 0; man < plan.men; man++) {
                int place = places[man];
                if (place >= 0) {
                    set(man, place);
                    lead += leadOf(man);
                } else if (plan.isCrown(man)) {
                    crownsTaken++;
                }
            }
        }

        // ---- counts

        int menOf(int asked) {
            int men = 0;
            for (int man = 0; man < plan.men; man++) {
                if (isOut(man, asked)) {
                    men++;
                }
            }
            return men;
        }

        /** Whether a MAN is of that SIDE and not TAKEN. */
        private boolean isOut(int man, int asked) {
            return plan.sideOf[man] == asked && places[man] >= 0;
        }

        int borne() {
            int all = 0;
            for (int field = 0; field < plan.fields; field++) {
                all += bears[field];
            }
            return all;
        }

        int balanceOf(int asked) {
            return asked == 0 ? lead : -lead;
        }

        private int leadOf(int man) {
            int worth = plan.worth[plan.kindOf[man]];
            return plan.sideOf[man] == 0 ? worth : -worth;
        }

        // ---- MOVES

        /** The places to which a MAN goes, as bits, whoever is to move. */
        int goals(int man) {
            int place = places[man];
            if (place < 0) {
                return 0;
            }
            int kind = plan.kindOf[man];
            int ways = plan.ways[kind];
            int reach = ways == WAYS_LEAP ? 1 : plan.reach[kind];
            int goals = 0;
            for (int way = FIRST_WAY[ways]; way < BEHIND_WAY[ways]; way++) {
                goals |= along(place, way, reach, plan.sideOf[man]);
            }
            return goals;
        }

        private int along(int place, int way, int reach, int mover) {
            int own = held[mover];
            int others = held[1 - mover];
            int column = place % WIDE;
            int row = place / WIDE;
            int goals = 0;
            for (int i = 0; i < reach; i++) {
                column += TO_COLUMN[way];
                row += TO_ROW[way];
                if (column < 0 || column >= plan.columns || row < 0 || row >= plan.rows) {
                    break;
                }
                int goal = 1 << (row * WIDE + column);
                if ((own & goal) != 0) {
                    break;
                }
                goals |= goal;
                if ((others & goal) != 0) {
                    break;
                }
            }
            return goals;
        }

        /** How many MOVES the SIDE to move has; none when a CROWN is TAKEN. */
        int moveCount() {
            int moves = 0;
            for (int man = 0; crownsTaken == 0 && man < plan.men; man++) {
                if (isOut(man, side)) {
                    moves += Integer.bitCount(goals(man));
                }
            }
            return moves;
        }

        boolean isOver() {
            return moveCount() == 0;
        }

        /** The k-th MOVE of the SIDE to move; NONE when there is none such. */
        int moveAt(int k) {
            int left = k;
            for (int man = 0; crownsTaken == 0 && k >= 0 && man < plan.men; man++) {
                if (!isOut(man, side)) {
                    continue;
                }
                int goals = goals(man);
                int many = Integer.bitCount(goals);
                if (left < many) {
                    return moveOf(man, bitAt(goals, left));
                }
                left -= many;
            }
            return NONE;
        }

        /** The number of a MOVE of the SIDE to move; NONE for NONE. */
        int numberOf(int move) {
            if (move < 0) {
                return NONE;
            }
            int number = 0;
            for (int man = 0; man < plan.men && man <= manOfMove(move); man++) {
                int goals = isOut(man, side) ? goals(man) : 0;
                int ahead = (1 << placeOfMove(move)) - 1;
                number += Integer.bitCount(man < manOfMove(move) ? goals : goals & ahead);
            }
            return number;
        }

        private static int bitAt(int bits, int k) {
            int left = k;
            for (int place = 0; place < PLACES; place++) {
                if ((bits >> place & 1) != 0) {
                    if (left == 0) {
                        return place;
                    }
                    left--;
                }
            }
            return 0;
        }

        private void set(int man, int place) {
            places[man] = place;
            standing[place] = man;
            held[plan.sideOf[man]] |= 1 << place;
        }

        private void lift(int man, int place) {
            places[man] = NONE;
            standing[place] = NONE;
            held[plan.sideOf[man]] &= ~(1 << place);
        }

        /** Carries a MAN to a place: the man TAKEN there, NONE without. */
        private int carry(int man, int to) {
            int taken = standing[to];
            if (taken >= 0) {
                lift(taken, to);
                lead -= leadOf(taken);
                crownsTaken += plan.isCrown(taken) ? 1 : 0;
            }
            lift(man, places[man]);
            set(man, to);
            return taken;
        }

        /** Undoes carry(): the MAN stands where he came from, the one TAKEN is there again. */
        private void carryBack(int man, int from, int taken) {
            int to = places[man];
            lift(man, to);
            set(man, from);
            if (taken >= 0) {
                set(taken, to);
                lead += leadOf(taken);
                crownsTaken -= plan.isCrown(taken) ? 1 : 0;
            }
        }

        // ---- looking deep

        /** VALUE for a SIDE that is to move. */
        int outlook(int mover, int moves) {
            if (moves <= 0 || crownsTaken > 0) {
                return balanceOf(mover);
            }
            if (moves == 1) {
                return balanceOf(mover) + dearestPrey(mover);
            }
            boolean any = false;
            int most = 0;
            for (int man = 0; man < plan.men; man++) {
                int goals = isOut(man, mover) ? goals(man) : 0;
                for (int to = 0; goals != 0 && to < PLACES; to++) {
                    if ((goals >> to & 1) != 0) {
                        int found = outlookBehind(man, to, moves);
                        most = any ? Math.max(most, found) : found;
                        any = true;
                    }
                }
            }
            return any ? most : balanceOf(mover);
        }

        private int outlookBehind(int man, int to, int moves) {
            int from = places[man];
            int taken = carry(man, to);
            int found = -outlook(1 - plan.sideOf[man], moves - 1);
            carryBack(man, from, taken);
            return found;
        }

        /**
         * The greatest worth that a SIDE can take at once. One MOVE deep that alone is gained, so
         * there no MOVE need be tried.
         */
        private int dearestPrey(int mover) {
            int goals = 0;
            for (int man = 0; man < plan.men; man++) {
                goals |= isOut(man, mover) ? goals(man) : 0;
            }
            int dearest = 0;
            for (int man = 0; man < plan.men; man++) {
                if (isOut(man, 1 - mover) && (goals >> places[man] & 1) != 0) {
                    dearest = Math.max(dearest, plan.worthOf(man));
                }
            }
            return dearest;
        }

        /** How deep the SIDE to move looks. */
        int depth() {
            return deep[side];
        }

        /** The BEST MOVE of the SIDE to move; NONE when the GAME is OVER. */
        int bestMove(int moves) {
            int best = NONE;
            int most = 0;
            for (int man = 0; crownsTaken == 0 && man < plan.men; man++) {
                int goals = isOut(man, side) ? goals(man) : 0;
                for (int to = 0; goals != 0 && to < PLACES; to++) {
                    if ((goals >> to & 1) == 0) {
                        continue;
                    }
                    int found = outlookBehind(man, to, moves);
                    if (best < 0 || found > most) {
                        best = moveOf(man, to);
                        most = found;
                    }
                }
            }
            return best;
        }

        // ---- CROWNS

        /** Whether a CROWN of the other SIDE stands where this SIDE could go. */
        private boolean threatens(int mover) {
            int crowns = 0;
            for (int man = 0; man < plan.men; man++) {
                if (isOut(man, 1 - mover) && plan.isCrown(man)) {
                    crowns |= 1 << places[man];
                }
            }
            for (int man = 0; crowns != 0 && man < plan.men; man++) {
                if (isOut(man, mover) && (goals(man) & crowns) != 0) {
                    return true;
                }
            }
            return false;
        }

        int forcedBy() {
            if (crownsTaken == 0 && threatens(side)) {
                return 1;
            }
            for (int man = 0; crownsTaken == 0 && man < plan.men; man++) {
                int goals = isOut(man, side) ? goals(man) : 0;
                for (int to = 0; goals != 0 && to < PLACES; to++) {
                    if ((goals >> to & 1) != 0 && cornersBy(man, to)) {
                        return 2;
                    }
                }
            }
            return NONE;
        }

        private boolean cornersBy(int man, int to) {
            int from = places[man];
            int taken = carry(man, to);
            boolean sure = crownsTaken == 0 && isCornered(1 - plan.sideOf[man]);
            carryBack(man, from, taken);
            return sure;
        }

        /** Whether a SIDE has a MOVE, and behind each the other one takes a CROWN. */
        private boolean isCornered(int mover) {
            boolean any = false;
            for (int man = 0; man < plan.men; man++) {
                int goals = isOut(man, mover) ? goals(man) : 0;
                for (int to = 0; goals != 0 && to < PLACES; to++) {
                    if ((goals >> to & 1) != 0) {
                        int from = places[man];
                        int taken = carry(man, to);
                        boolean lost = crownsTaken == 0 && threatens(1 - mover);
                        carryBack(man, from, taken);
                        if (!lost) {
                            return false;
                        }
                        any = true;
                    }
                }
            }
            return any;
        }

        // ---- REACHED

        /** In how many ways n MOVES lead to MEN standing so. */
        int waysTo(int[] aim, int mover, int n) {
            // A MOVE changes the place of two MEN at most: his who moves, his who is TAKEN.
            int unlike = unlike(aim);
            if (unlike > 2 * n) {
                return 0;
            }
            if (n <= 0) {
                return 1;
            }
            int found = 0;
            for (int man = 0; crownsTaken == 0 && man < plan.men; man++) {
                int goals = isOut(man, mover) ? goals(man) : 0;
                for (int to = 0; goals != 0 && to < PLACES; to++) {
                    if ((goals >> to & 1) != 0) {
                        int from = places[man];
                        int taken = carry(man, to);
                        found += waysTo(aim, 1 - mover, n - 1);
                        carryBack(man, from, taken);
                    }
                }
            }
            return found;
        }

        private int unlike(int[] aim) {
            int unlike = 0;
            for (int man = 0; man < plan.men && man < aim.length; man++) {
                if (places[man] != aim[man]) {
                    unlike++;
                }
            }
            return unlike;
        }

        // ---- DAYS

        void passDays(int n) {
            for (int i = 0; i < n; i++) {
                passDay(bestMove(depth()));
            }
        }

        /** A DAY with that MOVE (NONE without one): the man TAKEN, NONE without. */
        int passDay(int move) {
            int taken = NONE;
            if (move >= 0) {
                taken = strike(move);
                wither();
            }
            turn();
            return taken;
        }

        /** Plays a MOVE on the board, and holds what it does to FIELDS: the man TAKEN. */
        int strike(int move) {
            int man = manOfMove(move);
            if (move < 0 || man >= plan.men || places[man] < 0) {
                return NONE;
            }
            movedTo = placeOfMove(move);
            int taken = carry(man, movedTo);
            worthTaken = plan.worthOf(taken);
            check = threatens(plan.sideOf[man]) ? 1 : 0;
            return taken;
        }

        /** What harm the MOVE that was struck does at a place, at least nothing. */
        int harmTo(int place) {
            if (plan.harms == 0) {
                return worthTaken;
            }
            reckoner.facts[WORD_TAKEN] = worthTaken;
            reckoner.facts[WORD_CHECK] = check;
            reckoner.facts[WORD_OFF] = farness(movedTo, place);
            reckoner.facts[WORD_DAY] = day;
            return Math.max(0, reckoner.reckon(plan.harm));
        }

        void wither() {
            for (int field = 0; field < plan.fields; field++) {
                bears[field] = Math.max(0, bears[field] - harmTo(plan.fieldAt[field]));
            }
        }

        /** What each DAY ends with: FIELDS grow, and the other SIDE is to move. */
        void turn() {
            for (int field = 0; field < plan.fields; field++) {
                bears[field] = Math.min(MOST_BORNE, bears[field] + plan.grows);
            }
            side = 1 - side;
            day = Math.min(LAST_DAY, day + 1);
        }

        // ---- QUESTIONS

        int answerOf(Formula formula, int man) {
            int place = places[man];
            int kind = plan.kindOf[man];
            int[] facts = reckoner.facts;
            facts[WORD_NUMBER] = man;
            facts[WORD_COLUMN] = place % WIDE;
            facts[WORD_ROW] = place / WIDE;
            facts[WORD_SIDE] = plan.sideOf[man];
            facts[WORD_WORTH] = plan.worth[kind];
            facts[WORD_REACH] = plan.reach[kind];
            facts[WORD_MOVES] = Integer.bitCount(goals(man));
            facts[WORD_DAY] = day;
            for (int field = 0; field < FIELDS; field++) {
                boolean there = field < plan.fields;
                reckoner.far[field] = there ? farness(place, plan.fieldAt[field]) : 0;
            }
            return reckoner.reckon(formula);
        }
    }

    /** What is KEPT, and how all was ahead of the last ACTS. */
    private static final class Chronicle {
        private static final int RECORD = 3 + MEN + FIELDS;
        // A DAY has one MOVE at most, and on() and board() forget all: no more are ever KEPT.
        private final int[] moves = new int[LAST_DAY];
        private int kept = 0;
        private final int[] records = new int[UNDONE * RECORD];
        int acts = 0;

        void forget() {
            kept = 0;
            acts = 0;
        }

        void keep(int day, int move, int taken) {
            if (kept < moves.length) {
                moves[kept] = (day * (MEN * PLACES) + move) * 256 + taken;
                kept++;
            }
        }

        int told() {
            return Math.min(kept, TOLD_KEPT);
        }

        int tell(int k, int what) {
            int told = told();
            if (k < 0 || k >= told) {
                return NONE;
            }
            int entry = moves[kept - told + k];
            int move = entry / 256 % (MEN * PLACES);
            switch (what) {
                case 0: return entry / 256 / (MEN * PLACES);
                case 1: return manOfMove(move);
                case 2: return placeOfMove(move) % WIDE;
                case 3: return placeOfMove(move) / WIDE;
                case 4: return entry % 256;
                default: return NONE;
            }
        }

        /** Holds how all is, ahead of an ACT; the oldest goes when there are too many. */
        void remember(Game game) {
            if (acts >= UNDONE) {
                System.arraycopy(records, RECORD, records, 0, (UNDONE - 1) * RECORD);
                acts = UNDONE - 1;
            }
            int from = acts * RECORD;
            records[from] = game.day;
            records[from + 1] = game.side;
            records[from + 2] = kept;
            System.arraycopy(game.places, 0, records, from + 3, MEN);
            System.arraycopy(game.bears, 0, records, from + 3 + MEN, FIELDS);
            acts++;
        }

        boolean takeBack(Game game) {
            if (acts <= 0) {
                return false;
            }
            acts--;
            int from = acts * RECORD;
            game.day = records[from];
            game.side = records[from + 1];
            kept = records[from + 2];
            System.arraycopy(records, from + 3, game.places, 0, MEN);
            System.arraycopy(records, from + 3 + MEN, game.bears, 0, FIELDS);
            game.settle();
            return true;
        }
    }
}
