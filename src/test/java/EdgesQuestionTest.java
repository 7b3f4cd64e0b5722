/** Terms IV and promises 5 and 32 to 35, sentence by sentence: QUESTIONS, their FAULTS, IMAGES. */
public final class EdgesQuestionTest {
    private static final String BOARD = "board 4 by 3 white 1 black 1;kind kr ways 1 reach 4 worth 5;kind kn ways 4 reach 2 worth 3;"
        + "kind kc ways 3 reach 1 worth 9 crown;man a is kr of 0 at 0 0;man b is kn of 0 at 3 0;man c is kc of 1 at 1 2;"
        + "man d is kr of 1 at 3 2;field f at 0 0 bears 5;field g at 3 1 bears 6;sleepy 40;";
    private static GardenChess x;

    public static void main(String[] args) {
        x = Bench.on(BOARD);
        x.tend(0, 1);
        x.image();
        holdsForNone();
        withoutMen();
        notTaken();
        facts();
        offOfNone();
        sumsAreCut();
        comparing();
        precedence();
        openOnes();
        notUntilItsFact();
        offUntilItsPart();
        unknownWords();
        behindIt();
        tooSoon();
        digits();
        blanks();
        withoutBoard();
        faultOfTheLatest();
        imageBytes();
        imageOnlyWhenWritten();
        octetBounds();
        onBounds();
        onNone();
        onForgets();
        Bench.close("EdgesQuestionTest");
    }

    /** That a QUESTION has this answer, has no FAULT, and changes nothing else. */
    private static void asks(String question, long want) {
        Picture ahead = Picture.of(x);
        Bench.due(question, Bench.ask(x, question), want);
        Bench.due(question + ": fault(0)", x.fault(0), 0);
        Bench.due(question + ": fault(1)", x.fault(1), -1);
        ahead.stays(x, question, "fault");
        tapeGoes(question);
    }

    private static void tapeGoes(String with) {
        Bench.due("the tape goes with " + with, x.feed(0, 0, 0, 0, 0), 20);
        x.end(0);
    }

    /** The FAULT lies at the place of the sign ^, which is no part of the text. */
    private static void bad(int fault, String marked) {
        int place = marked.indexOf('^');
        String question = marked.substring(0, place) + marked.substring(place + 1);
        Picture ahead = Picture.of(x);
        Bench.due(question, Bench.ask(x, question), Bench.NOTHING);
        Bench.due(question + ": fault(0)", x.fault(0), fault);
        Bench.due(question + ": fault(1)", x.fault(1), place);
        Bench.due(question + ": fault(2)", x.fault(2), -1);
        ahead.stays(x, question, "fault");
        tapeGoes(question);
    }

    // ---- "NONE of first, last, when its TEST holds for none"; "often TEST (for how many)"

    private static void holdsForNone() {
        asks("first all", 0);
        asks("last all", 3);
        asks("often all", 4);
        asks("first not all", -1);
        asks("last not all", -1);
        asks("often not all", 0);
        asks("first number=0", 0);
        asks("last number=0", 0);
        asks("first number>2", 3);
        asks("last number<1", 0);
        asks("first number>3", -1);
        asks("last number>3", -1);
    }

    // ---- "the greatest, the least of all; 0 without MEN"

    private static void withoutMen() {
        GardenChess old = x;
        x = Bench.on("board 2 by 2 white 1 black 1;");
        asks("most 7", 0);
        asks("least 7", 0);
        asks("most 0-7", 0);
        asks("least 0-7", 0);
        asks("total 7", 0);
        asks("often all", 0);
        asks("first all", -1);
        asks("last all", -1);
        x = old;
        asks("most 0-7", -7);
        asks("least 7", 7);
        asks("most 0-number-1", -1);
        asks("least number+1", 1);
        // All MEN TAKEN: there are none of whom it is asked.
        GardenChess gone = Bench.on(BOARD);
        Bench.tape(gone, Bench.marked(0, 0, 0, 255, 255, 255, 255, 255, 255, 255, 255, 0, 5, 0, 6, 0));
        Bench.due("on()", gone.on(), true);
        x = gone;
        asks("most 7", 0);
        asks("least 7", 0);
        asks("first all", -1);
        asks("total 1", 0);
        x = old;
    }

    // ---- "of all MEN that are not TAKEN"

    private static void notTaken() {
        GardenChess old = x;
        x = Bench.on(BOARD);
        Bench.tape(x, Bench.marked(0, 0, 0, 255, 255, 3, 0, 1, 2, 255, 255, 0, 5, 0, 6, 0));
        Bench.due("on()", x.on(), true);
        asks("first all", 1);
        asks("last all", 2);
        asks("often all", 2);
        asks("total 1", 2);
        asks("least number", 1);
        asks("most number", 2);
        // A CROWN TAKEN: the GAME is OVER, and a MAN's MOVES are told all the same.
        Bench.tape(x, Bench.marked(0, 0, 0, 0, 0, 255, 255, 255, 255, 255, 255, 0, 5, 0, 6, 0));
        Bench.due("on()", x.on(), true);
        Bench.due("OVER", x.has(7), 1);
        asks("total moves", 5);
        x = old;
    }

    // ---- "The MAN's number, place, SIDE, worth, reach; how many MOVES he has, were his SIDE to move"; "day"

    private static void facts() {
        asks("most number", 3);
        asks("most column", 3);
        asks("most row", 2);
        asks("most side", 1);
        asks("most worth", 9);
        asks("least worth", 3);
        asks("most reach", 4);
        asks("least reach", 1);
        asks("most moves", 5);
        asks("least moves", 2);
        asks("most day", 0);
        GardenChess old = x;
        x = Bench.on(BOARD);
        Bench.tape(x, Bench.marked(3, 231, 1, 0, 0, 3, 0, 1, 2, 3, 2, 0, 5, 0, 6, 0));
        Bench.due("on()", x.on(), true);
        asks("most day", 999);
        x = old;
    }

    // ---- "how far he is from the FIELD of that number, 0 of those that there are not"

    private static void offOfNone() {
        asks("total off 0", 0 + 3 + 2 + 3);
        asks("total off 1", 3 + 1 + 2 + 1);
        asks("total off 2", 0);
        asks("total off 5", 0);
        asks("total off 6", 0);
        asks("total off 7", 0);
        asks("total off 9999", 0);
        asks("total off (0-1)", 0);
        asks("total off (0-9999*9999)", 0);
        asks("total off (9999*9999)", 0);
        asks("most off min(0,1)", 3);
        GardenChess old = x;
        x = Bench.on("board 5 by 5 white 1 black 1;kind k ways 1 reach 1 worth 1;man a is k of 0 at 0 0;field fa at 0 0 bears 1;"
            + "field fb at 1 0 bears 1;field fc at 0 2 bears 1;field fd at 3 1 bears 1;field fe at 4 4 bears 1;field ff at 2 2 bears 1;");
        int[] far = {0, 1, 2, 3, 4, 2, 0};
        for (int field = 0; field < far.length; field++) {
            asks("total off " + field, far[field]);
        }
        x = old;
    }

    // ---- SUM as in I: "above 10 to the 6 is that, below -10 to the 6 likewise"

    private static void sumsAreCut() {
        asks("most 1000*1000", 1000000);
        asks("most 1000*1001", 1000000);
        asks("most 999*1001", 999999);
        asks("most 9999*100+100", 1000000);
        asks("most 9999*100+101", 1000000);
        asks("most 9999*100+99", 999999);
        asks("least 0-9999*100-100", -1000000);
        asks("least 0-9999*100-101", -1000000);
        asks("least 0-9999*100-99", -999999);
        asks("least (0-1000)*1001", -1000000);
        asks("least (0-999)*1001", -999999);
        asks("most 9999*100-(0-101)", 1000000);
        asks("least 0-9999*100+(0-101)", -1000000);
        asks("total 9999*9999", 4000000);
        asks("total 0-9999*9999", -4000000);
        asks("most 9999*9999/0", 0);
        asks("least (0-7)/2", -4);
        asks("most 7/(0-2)", -4);
        asks("first 9999*9999=1000*1000", 0);
    }

    // ---- "SIGN < or > or ="

    private static void comparing() {
        asks("often 1<2", 4);
        asks("often 2<2", 0);
        asks("often 3<2", 0);
        asks("often 1>2", 0);
        asks("often 2>2", 0);
        asks("often 3>2", 4);
        asks("often 1=2", 0);
        asks("often 2=2", 4);
        asks("often 3=2", 0);
        asks("often 0-1<0", 4);
        bad(1, "often 1<^=2");
        bad(1, "often 1^!2");
        bad(1, "often 1<2^<3");
    }

    // ---- "TEST: BOTH { or BOTH }. BOTH: FACT { and FACT }. FACT: not FACT"

    private static void precedence() {
        asks("often all or all and not all", 4);
        asks("often [all or all] and not all", 0);
        asks("often not all or all", 4);
        asks("often not [all or all]", 0);
        asks("often not all and not all", 0);
        asks("often not not all", 4);
        asks("often not number=0 and number<2", 1);
    }

    // ---- "4 the 7th of ( [ not off that is open at once, at it"

    private static void openOnes() {
        asks("often [[[[[[all]]]]]]", 4);
        bad(4, "often [[[[[[^[all]]]]]]]");
        asks("often not not not not not not all", 4);
        bad(4, "often not not not not not not ^not all");
        asks("total ((((((1))))))", 4);
        bad(4, "total ((((((^(1)))))))");
        asks("total off off off off off off 0", 0);
        bad(4, "total off off off off off off ^off 0");
        asks("total min(1,min(1,min(1,min(1,min(1,min(1,2))))))", 4);
        bad(4, "total min(1,min(1,min(1,min(1,min(1,min(1,min^(1,2)))))))");
        bad(4, "total max(max(max(max(max(max(^(1),1),1),1),1),1),1)");
        asks("often [not [(off (0))=0]]", 3);
        bad(4, "often [not [(off (^(0)))=0]]");
        bad(4, "often [not [(off (^off 0))=0]]");
        bad(4, "often [not [(off (min^(0,1)))=0]]");
        asks("often [not [not [not all]]]", 0);
        bad(4, "often [not [not [not ^[all]]]]");
        bad(1, "often [[[[[[^]");
        bad(1, "total ((((((^)");
    }

    // ---- "not until its FACT ... ends"

    private static void notUntilItsFact() {
        asks("often not not not not not (1)=1", 0);
        bad(4, "often not not not not not not ^(1)=1");
        bad(4, "often not not not not not not 1=^(1)");
        bad(4, "often not not not not not not ^off 0=1");
        asks("often not not not not not not 1=1 and (1)=1", 4);
        asks("often not not not not not not 1=1 or [not not not not not all]", 4);
        asks("often not all or not all or not all or not all or not all or not all or not all or not all", 0);
    }

    // ---- "off until its PART ends"

    private static void offUntilItsPart() {
        // Off 0 is 0, 3, 2, 3; of FIELDS 3 and 2 there are none, so off off 0 is 0, and so on by turns.
        asks("total off off off off off (0)", 0 + 3 + 2 + 3);
        asks("total off off off off (0)", 0);
        bad(4, "total off off off off off off ^(0)");
        bad(4, "total off off off off off off min^(0,1)");
        asks("total off off off off off off 0+((((((1))))))", 4);
        asks("total off off off off off off 0*((((((1))))))", 0);
        asks("total off 0+off 0+off 0+off 0+off 0+off 0+off 0+off 0", 64);
    }

    // ---- "1 as in I (an unknown word at its first byte ...)"

    private static void unknownWords() {
        for (String word : "x numbers firsts abcdefghijkl taken check crown board kind man field harm grows sleepy bears is of at by white black ways"
            .split(" ")) {
            bad(1, "^" + word + " all");
            bad(1, "often ^" + word);
            bad(1, "often ^" + word + "=1");
            bad(1, "total ^" + word);
            bad(1, "often all ^" + word + " all");
        }
        for (String word : "first last often total most least".split(" ")) {
            bad(1, "often ^" + word + "=1");
            bad(1, "total ^" + word);
        }
        for (String word : "number column row side worth reach moves day".split(" ")) {
            bad(1, "^" + word);
            Bench.due("total " + word, Bench.ask(x, "total " + word) > Bench.NOTHING, true);
        }
        for (String word : "or and all not ways".split(" ")) {
            bad(1, "total ^" + word);
        }
        bad(1, "often ^or all");
        bad(1, "often ^and all");
        bad(1, "often ^]");
        bad(1, "total ^[1]");
    }

    // ---- "what stands behind it, too"

    private static void behindIt() {
        for (String rest : new String[] {";", ".", "?", ")", "]", ",", "all", "1", "first all", "\u0000", "\u00ff"}) {
            bad(1, "often all ^" + rest);
            bad(1, "total 1 ^" + rest);
        }
        bad(1, "total 1 ^or 1");
        bad(1, "total 1 ^= 1");
        bad(1, "often (1^<2)");
        asks("often all  \n ", 4);
    }

    // ---- "at the text's length, if it ends too soon"

    private static void tooSoon() {
        bad(1, "^");
        bad(1, " \n ^");
        for (String word : "first last often total most least".split(" ")) {
            bad(1, word + "^");
            bad(1, word + " ^");
        }
        String[] whole = "often [ not number * 2 + off ( 1 ) < min ( 3 , worth ) / 2 - 1 or all".split(" ");
        StringBuilder text = new StringBuilder();
        for (String piece : whole) {
            text.append(text.length() > 0 ? " " : "").append(piece);
            bad(1, text + "^");
            bad(1, text + " \n^");
        }
    }

    // ---- "N (1 to 4 digits)", "a 5th digit at itself"

    private static void digits() {
        asks("most 9999", 9999);
        asks("most 0009", 9);
        asks("most 0000", 0);
        bad(1, "most 1000^0");
        bad(1, "most 0000^0");
        bad(1, "most 1+1234^5678901234567890");
        bad(1, "most off 0000^0");
        bad(1, "often 1 < 1000^0");
    }

    // ---- "Blanks (10, 32) are where one likes (words and numbers side by side need one)"

    private static void blanks() {
        asks("\n often\n[not\nall]or all\n", 4);
        asks("often(1)=1", 4);
        asks("often[all]and[all]", 4);
        asks("total(off(0))+1", 12);
        bad(1, "^oftenall");
        bad(1, "total^1");
        bad(1, "total off^1");
        bad(1, "often 1=1^or all");
        bad(1, "often not^1=1");
        bad(1, "often^\tall");
        bad(1, "often^\rall");
    }

    // ---- ask: "or, doing nothing else, without a board"

    private static void withoutBoard() {
        GardenChess old = x;
        x = new GardenChess();
        for (String question : new String[] {"often all", "total 1", "oft", "total (((((((", ""}) {
            Bench.text(x, question);
            Picture.tells(x, "ask() without a board of " + question, Bench.NOTHING, () -> x.ask());
            tapeGoes(question);
        }
        Bench.board(x, "board 9");
        Bench.text(x, "often all");
        Picture.tells(x, "ask() without a board", Bench.NOTHING, () -> x.ask());
        Bench.due("the FAULT of board() is told still", x.fault(0), 2);
        Bench.due("and its place", x.fault(1), 6);
        x = old;
    }

    // ---- fault: "Of the latest board() or ask(): its FAULT (what 0; 0 without, and ahead of any), its place (1; NONE without)"

    private static void faultOfTheLatest() {
        GardenChess y = new GardenChess();
        faults(y, "ahead of any", 0, -1);
        Bench.board(y, "board 2 by 2 white 1 black 7;");
        faults(y, "a number", 2, 27);
        y.see();
        y.reached(0);
        y.on();
        y.play(0);
        y.end(1);
        faults(y, "of the latest board() still", 2, 27);
        Bench.board(y, "board 2 by 2 white 1 black 1;");
        faults(y, "none", 0, -1);
        Bench.ask(y, "total (((((((");
        faults(y, "of ask()", 4, 12);
        Bench.ask(y, "total 1");
        faults(y, "of an ask() without", 0, -1);
        Bench.ask(y, "");
        faults(y, "of an empty ask()", 1, 0);
        Bench.board(y, "board 2 by 2 white 1 black 1;");
        faults(y, "of a board() without", 0, -1);
        Bench.board(y, "");
        faults(y, "of an empty board()", 1, 0);
        for (int what : new int[] {-1, 2, 3, Integer.MAX_VALUE, Integer.MIN_VALUE}) {
            Picture.tells(y, "fault(" + what + ")", -1, () -> y.fault(what));
        }
    }

    private static void faults(GardenChess y, String when, int fault, int place) {
        Bench.due("fault(0) " + when, y.fault(0), fault);
        Bench.due("fault(1) " + when, y.fault(1), place);
    }

    // ---- AN IMAGE: "DAY (two bytes, the higher first), the SIDE to move; for each MAN ...; for each FIELD ...; last a byte"

    private static void imageBytes() {
        GardenChess none = Bench.on("board 2 by 2 white 1 black 1;");
        image(none, 0, 0, 0, 0);
        GardenChess y = Bench.on(BOARD);
        image(y, 0, 0, 0, 0, 0, 3, 0, 1, 2, 3, 2, 0, 5, 0, 6, 0);
        int[][] taken = {
            Bench.marked(0, 255, 1, 0, 0, 255, 255, 1, 2, 3, 2, 0, 255, 1, 0, 0),
            Bench.marked(1, 0, 0, 0, 0, 3, 0, 255, 255, 3, 2, 1, 0, 0, 255, 0),
            Bench.marked(3, 231, 1, 255, 255, 255, 255, 255, 255, 255, 255, 3, 231, 0, 0, 0)};
        for (int[] bytes : taken) {
            Bench.tape(y, bytes);
            Bench.due("on()", y.on(), true);
            image(y, bytes);
        }
        StringBuilder text = new StringBuilder("board 5 by 5 white 1 black 1;kind k ways 1 reach 1 worth 1;");
        for (int i = 0; i < 8; i++) {
            text.append("man m").append((char) ('a' + i)).append(" is k of 0 at ").append(i % 5).append(" ").append(i / 5).append(';');
        }
        for (int i = 0; i < 6; i++) {
            text.append("field f").append((char) ('a' + i)).append(" at 0 0 bears 999;");
        }
        GardenChess full = Bench.on(text.toString());
        Bench.due("the longest image()", full.image(), 3 + 16 + 12 + 1);
        Bench.due("its last byte is there", full.octet(31) >= 0, true);
        Bench.due("none behind it", full.octet(32), -1);
        Bench.tape(full, Bench.image(full));
        Bench.due("on() of the longest", full.on(), true);
    }

    private static void image(GardenChess y, int... bytes) {
        int[] due = Bench.marked(bytes);
        Bench.due("image()", y.image(), due.length);
        for (int k = 0; k < due.length; k++) {
            Bench.due("octet(" + k + ")", y.octet(k), due[k]);
        }
        Bench.due("octet(" + due.length + ")", y.octet(due.length), -1);
    }

    // ---- octet: "Byte k of the latest image()"

    private static void imageOnlyWhenWritten() {
        GardenChess y = Bench.on(BOARD);
        Bench.due("ahead of image()", y.octet(0), -1);
        y.image();
        Picture ahead = Picture.of(y);
        y.tend(0, 99);
        y.play(0);
        Bench.due("the FIELD as it was", y.octet(12), 5);
        Bench.due("the DAY as it was", y.octet(1), 0);
        y.undo();
        y.undo();
        ahead.stays(y, "two ACTS undone");
        y.tend(0, 99);
        y.image();
        Bench.due("the FIELD as it is", y.octet(12), 104);
    }

    private static void octetBounds() {
        GardenChess y = Bench.on(BOARD);
        y.image();
        Bench.due("octet(15)", y.octet(15) >= 0, true);
        for (int k : new int[] {-1, 16, 17, 32, 33, 1600, Integer.MAX_VALUE, Integer.MIN_VALUE}) {
            Picture.tells(y, "octet(" + k + ")", -1, () -> y.octet(k));
        }
        Picture ahead = Picture.of(y);
        Bench.due("image()", y.image(), 16);
        ahead.stays(y, "the same image()");
    }

    // ---- on: "DAY 999, FIELDS 999 at most; SIDE 0, 1; places that there are, no two MEN on one"

    private static int[] good() {
        return new int[] {0, 7, 1, 0, 0, 3, 0, 1, 2, 3, 2, 0, 5, 0, 6, 0};
    }

    private static int[] with(int... changes) {
        int[] bytes = good();
        for (int i = 0; i < changes.length; i += 2) {
            bytes[changes[i]] = changes[i + 1];
        }
        return Bench.marked(bytes);
    }

    private static void taken(int[] bytes, String why) {
        GardenChess y = Bench.on(BOARD);
        Bench.tape(y, bytes);
        Bench.due("on() of " + why, y.on(), true);
        Bench.due("nothing is refused", y.status(5), 0);
        image(y, bytes);
    }

    private static void onBounds() {
        taken(with(), "a good one");
        taken(with(0, 0, 1, 0), "DAY 0");
        taken(with(0, 3, 1, 231), "DAY 999");
        taken(with(2, 0), "SIDE 0");
        taken(with(2, 1), "SIDE 1");
        taken(with(3, 3, 4, 1), "the last column");
        taken(with(3, 2, 4, 2), "the last row");
        taken(with(3, 255, 4, 255), "one TAKEN");
        taken(with(3, 255, 4, 255, 5, 255, 6, 255), "two TAKEN");
        taken(with(11, 0, 12, 0), "a FIELD of 0");
        taken(with(11, 3, 12, 231), "a FIELD of 999");
        taken(with(13, 3, 14, 231), "the last FIELD of 999");
    }

    // ---- "false, refused (5), when it is none (...), all staying"

    private static void refusedOn(GardenChess y, String why, int... bytes) {
        Bench.tape(y, bytes);
        Picture.refused(y, 5, "on() of " + why, 0, () -> y.on() ? 1 : 0);
        Bench.due("the tape goes with " + why, y.feed(0, 0, 0, 0, 0), 20);
        y.end(0);
    }

    private static void onNone() {
        GardenChess y = Bench.on(BOARD);
        y.play(0);
        y.tend(1, 50);
        Bench.tape(y, 0, 0, 5);
        y.see();
        y.image();
        refusedOn(y, "DAY 1000", with(0, 3, 1, 232));
        refusedOn(y, "DAY 1024", with(0, 4, 1, 0));
        refusedOn(y, "DAY 65535", with(0, 255, 1, 255));
        refusedOn(y, "SIDE 2", with(2, 2));
        refusedOn(y, "SIDE 255", with(2, 255));
        for (int man = 0; man < 4; man++) {
            refusedOn(y, "column 4", with(3 + 2 * man, 4, 4 + 2 * man, 1));
            refusedOn(y, "row 3", with(3 + 2 * man, 2, 4 + 2 * man, 3));
            refusedOn(y, "column 255", with(3 + 2 * man, 255, 4 + 2 * man, 1));
            refusedOn(y, "row 255", with(3 + 2 * man, 2, 4 + 2 * man, 255));
            refusedOn(y, "254, 254", with(3 + 2 * man, 254, 4 + 2 * man, 254));
        }
        refusedOn(y, "two on one", with(3, 3, 4, 2));
        refusedOn(y, "two on one", with(7, 3, 8, 0));
        refusedOn(y, "two on one", with(5, 0, 6, 0));
        refusedOn(y, "a FIELD of 1000", with(11, 3, 12, 232));
        refusedOn(y, "the last FIELD of 1000", with(13, 3, 14, 232));
        refusedOn(y, "a FIELD of 65535", with(11, 255, 12, 255));
        for (int k = 0; k < 16; k++) {
            int[] bytes = with();
            bytes[k] = (bytes[k] + 1) % 256;
            refusedOn(y, "a last byte that is not so, " + k, bytes);
        }
        int[] above = with();
        for (int i = 0; above[15] > 4; i++) {
            above = with(1, i);
        }
        above[15] += 251;
        refusedOn(y, "a last byte of 251 more", above);
        refusedOn(y, "nothing");
        refusedOn(y, "a byte too few", Bench.marked(0, 7, 1, 0, 0, 3, 0, 1, 2, 3, 2, 0, 5, 0, 0));
        refusedOn(y, "a byte too many", Bench.marked(0, 7, 1, 0, 0, 3, 0, 1, 2, 3, 2, 0, 5, 0, 6, 0, 0));
        refusedOn(y, "a MAN too few", Bench.marked(0, 7, 1, 0, 0, 3, 0, 1, 2, 0, 5, 0, 6, 0));
        refusedOn(y, "four bytes", 0, 0, 0, 87);
        GardenChess none = new GardenChess();
        refusedOn(none, "one without a board", 0, 0, 0, 87);
        refusedOn(none, "nothing, without a board");
    }

    // ---- "true, all is as it tells, nothing is KEPT or can be undone"

    private static void onForgets() {
        GardenChess y = Bench.on(BOARD);
        y.play(0);
        y.tend(1, 50);
        y.days(5);
        y.chance(1);
        Bench.tape(y, 0, 0, 5);
        y.see();
        int[] bytes = with();
        Bench.tape(y, bytes);
        Bench.due("on()", y.on(), true);
        Bench.due("the tape goes", y.feed(0, 0, 0, 0, 0), 20);
        Bench.due("nothing is KEPT", y.has(10), 0);
        Bench.due("nothing is KEPT", y.kept(0, 0), -1);
        Bench.due("nothing can be undone", y.has(12), 0);
        Picture.refused(y, 4, "undo() behind on()", 0, () -> y.undo() ? 1 : 0);
        Bench.due("what is SEEN stays", y.has(11), 1);
        Bench.due("DAY", y.has(5), 7);
        Bench.due("SIDE", y.has(6), 1);
        Bench.due("none is TAKEN", y.has(8), 0);
        image(y, bytes);
        y.play(0);
        Bench.due("KEPT from now on", y.kept(0, 0), 7);
    }
}
