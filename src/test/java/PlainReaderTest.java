import java.util.ArrayList;
import java.util.List;
import java.util.Random;

/** FAULTS of boards and questions that were changed by chance, against the plain reader of the same document. */
public final class PlainReaderTest {
    private static final Random CHANCE = new Random(20261118);
    private static final String BYTES = "abkmz019 \n;()+-*/,<>=[].!AZ_\t\r\0\u007f\u00e9\u00ff";
    private static final String[] TOKENS = ("board by white black kind ways reach worth crown man is of at field bears harm grows sleepy"
        + " taken check off day number column row side moves or and not all min max first last often total most least"
        + " ka ma fa k x abcdef abcdefg boards 0 1 2 3 4 5 6 00 0001 00001 9 10 99 100 101 999 1000 9999 10000 12345"
        + " ; ; ; ( ) ( ) [ ] + - * / , < > = (((((( [[[[[[ not off").split(" ");
    private static final String[] STATEMENTS = {"kind %s ways 1 reach 1 worth 0;", "man %s is ka of 0 at 0 0;", "man %s is ka of 1 at 1 1;",
        "field %s at 0 0 bears 1;", "harm 1;", "grows 1;", "sleepy 1;", "board 2 by 2 white 1 black 1;", ";", "kind %s ways 4 reach 4 worth 99 crown;"};
    private static final int[] FOUND = new int[6];

    public static void main(String[] args) {
        for (int run = 0; run < 15000; run++) {
            board(changed(anyBoard()));
        }
        for (int fault = 0; fault <= 5; fault++) {
            Bench.due("boards with FAULT " + fault + " are among them: " + FOUND[fault], FOUND[fault] > 100, true);
            FOUND[fault] = 0;
        }
        GardenChess x = Bench.on("board 3 by 3 white 1 black 1;kind k ways 3 reach 2 worth 5;man a is k of 0 at 0 0;field f at 2 2 bears 9;");
        for (int run = 0; run < 15000; run++) {
            question(x, changed(anyQuestion()));
        }
        for (int fault = 0; fault <= 4; fault++) {
            boolean can = fault < 2 || fault == 4;
            Bench.due("questions with FAULT " + fault + " are among them: " + FOUND[fault], FOUND[fault] > (can ? 100 : 0), can);
        }
        Bench.close("PlainReaderTest");
    }

    private static void board(String text) {
        if (text.length() > 1600) {
            return;
        }
        PlainReader want = PlainReader.ofBoard(text);
        FOUND[want.fault]++;
        GardenChess x = new GardenChess();
        String of = " of '" + text + "'";
        Bench.due("board()" + of, Bench.board(x, text), want.fault == 0 ? want.statements : -1);
        Bench.due("fault(0)" + of, x.fault(0), want.fault);
        Bench.due("fault(1)" + of, x.fault(1), want.place);
        Bench.due("has(2)" + of, x.has(2), want.fault == 0 ? want.many("kind") : 0);
        Bench.due("has(3)" + of, x.has(3), want.fault == 0 ? want.many("man") : 0);
        Bench.due("has(4)" + of, x.has(4), want.fault == 0 ? want.many("field") : 0);
    }

    private static void question(GardenChess x, String text) {
        if (text.length() > 1600) {
            return;
        }
        PlainReader want = PlainReader.ofQuestion(text);
        FOUND[want.fault]++;
        String of = " of '" + text + "'";
        Bench.due("ask()" + of, Bench.ask(x, text) == Bench.NOTHING, want.fault != 0);
        Bench.due("fault(0)" + of, x.fault(0), want.fault);
        Bench.due("fault(1)" + of, x.fault(1), want.place);
    }

    // ---- texts by chance

    private static String anyBoard() {
        StringBuilder text = new StringBuilder(PlainModel.any(CHANCE).text);
        if (CHANCE.nextInt(4) == 0) {
            int many = CHANCE.nextInt(CHANCE.nextInt(3) == 0 ? 64 : 8);
            for (int i = 0; i < many; i++) {
                String one = STATEMENTS[CHANCE.nextInt(3) > 0 ? 5 + CHANCE.nextInt(2) : CHANCE.nextInt(STATEMENTS.length)];
                text.append(String.format(one, anyName()));
            }
        }
        if (CHANCE.nextInt(8) == 0) {
            return text.toString().replaceAll("harm [^;]*;", "") + "harm " + nestedSum(4 + CHANCE.nextInt(5), false) + ";";
        }
        return text.toString();
    }

    private static String anyName() {
        StringBuilder name = new StringBuilder();
        for (int i = 1 + CHANCE.nextInt(CHANCE.nextInt(4) == 0 ? 8 : 3); i > 0; i--) {
            name.append((char) ('a' + CHANCE.nextInt(26)));
        }
        return name.toString();
    }

    private static String anyQuestion() {
        int open = CHANCE.nextInt(4);
        int nested = CHANCE.nextBoolean() ? 0 : 3 + CHANCE.nextInt(6);
        String[] words = {"first ", "last ", "often ", "total ", "most ", "least "};
        int k = CHANCE.nextInt(6);
        if (nested > 0) {
            return words[k] + (k < 3 ? nestedTest(nested) : nestedSum(nested, true));
        }
        return words[k] + (k < 3 ? Sums.test(CHANCE, open) : Sums.sum(CHANCE, open, true)).text;
    }

    /** A SUM in which so many lie in one another. */
    private static String nestedSum(int open, boolean ofMan) {
        if (open == 0) {
            return CHANCE.nextBoolean() ? "day" : "7";
        }
        String inner = nestedSum(open - 1, ofMan);
        switch (CHANCE.nextInt(ofMan ? 6 : 4)) {
            case 0: return "(" + inner + ")";
            case 1: return "min(" + inner + ",1)";
            case 2: return "max ( (1) , " + inner + ")";
            case 3: return "(2)*(" + inner + ")";
            case 4: return "off " + inner;
            default: return "off off 1+off " + inner;
        }
    }

    private static String nestedTest(int open) {
        if (open == 0 || CHANCE.nextInt(4) == 0) {
            boolean left = CHANCE.nextBoolean();
            return (left ? nestedSum(open, true) : "3") + "<=>".charAt(CHANCE.nextInt(3)) + (left ? "3" : nestedSum(open, true));
        }
        String inner = nestedTest(open - 1);
        switch (CHANCE.nextInt(4)) {
            case 0: return "[" + inner + "]";
            case 1: return "not " + inner;
            case 2: return "not not all and [" + inner + "]";
            default: return "[all]or not[" + inner + "]";
        }
    }

    // ---- changes by chance

    private static String changed(String text) {
        String now = text;
        for (int i = CHANCE.nextInt(3); i > 0; i--) {
            now = CHANCE.nextBoolean() ? changedByte(now) : changedToken(now);
        }
        return now;
    }

    private static String changedByte(String text) {
        int at = CHANCE.nextInt(text.length() + 1);
        int behind = Math.min(text.length(), at + 1);
        char sign = BYTES.charAt(CHANCE.nextInt(BYTES.length()));
        switch (CHANCE.nextInt(4)) {
            case 0: return text.substring(0, at) + text.substring(behind);
            case 1: return text.substring(0, at) + sign + text.substring(at);
            case 2: return text.substring(0, at) + sign + text.substring(behind);
            default: return text.substring(0, at);
        }
    }

    private static String changedToken(String text) {
        List<String> tokens = tokens(text);
        int at = CHANCE.nextInt(tokens.size() + 1);
        int there = Math.min(at, tokens.size() - 1);
        String token = TOKENS[CHANCE.nextInt(TOKENS.length)];
        if (tokens.isEmpty()) {
            return token;
        }
        switch (CHANCE.nextInt(5)) {
            case 0:
                tokens.remove(there);
                break;
            case 1:
                tokens.add(at, " " + token + " ");
                break;
            case 2:
                tokens.set(there, " " + token + " ");
                break;
            case 3:
                tokens.add(there, tokens.remove(CHANCE.nextInt(tokens.size())));
                break;
            default:
                tokens.set(there, token);
        }
        return String.join("", tokens);
    }

    /** Words, numbers, signs and blanks, each by itself. */
    private static List<String> tokens(String text) {
        List<String> tokens = new ArrayList<>();
        int from = 0;
        for (int k = 1; k <= text.length(); k++) {
            boolean same = k < text.length() && (Character.isLetter(text.charAt(k)) && Character.isLetter(text.charAt(k - 1))
                || Character.isDigit(text.charAt(k)) && Character.isDigit(text.charAt(k - 1)));
            if (!same) {
                tokens.add(text.substring(from, k));
                from = k;
            }
        }
        return tokens;
    }
}
