import java.nio.file.Files;
import java.nio.file.Path;

/** README.md: its example gives the answers that it tells, and its table of tests has each test. */
public final class ReadmeTest {
    private static final String TEXT = "board 3 by 3 white 1 black 2;"
        + "kind rook ways 1 reach 2 worth 5;"
        + "kind king ways 3 reach 1 worth 9 crown;"
        + "man wr is rook of 0 at 0 0; man wk is king of 0 at 0 2;"
        + "man br is rook of 1 at 2 2; man bk is king of 1 at 2 1;"
        + "field corn at 1 1 bears 100;"
        + "harm max(0, taken*2 + check*3 - off); grows 1;";

    public static void main(String[] args) throws Exception {
        String readme = Files.readString(Path.of("README.md"));
        for (String line : TEXT.split("(?<=;)")) {
            Bench.due("README.md tells " + line, readme.contains(line.trim()), true);
        }
        example();
        for (Path test : Files.newDirectoryStream(Path.of("src/test/java"), "*Test.java")) {
            String name = test.getFileName().toString().replace(".java", "");
            Bench.due("README.md has a row of " + name, readme.contains("| " + name + " |"), true);
        }
        Bench.close("ReadmeTest");
    }

    private static void feed(GardenChess x, String text) {
        for (int from = 0; from < text.length(); from += 20) {
            int[] five = new int[5];
            for (int k = 0; k < 20; k++) {
                int octet = from + k < text.length() ? text.charAt(from + k) : ' ';
                five[k / 4] = five[k / 4] << 8 | octet;
            }
            x.feed(five[0], five[1], five[2], five[3], five[4]);
        }
        x.end(text.length());
    }

    private static void example() {
        GardenChess x = new GardenChess();
        feed(x, TEXT);
        Bench.due("board()", x.board(), 10);
        Bench.due("best(2)", x.best(2), 3);
        Bench.due("value(2)", x.value(2), 0);
        Bench.due("crop(0, 5)", x.crop(0, 5), 88);
        Bench.due("play(0)", x.play(0), 255);
        Bench.due("field(0, 2)", x.field(0, 2), 101);
        feed(x, "often side = 1 and moves > 2");
        Bench.due("ask()", x.ask(), 1);
        Bench.due("undo()", x.undo(), true);
        feed(x, "board 9 by 3 white 1 black 1;");
        Bench.due("board()", x.board(), -1);
        Bench.due("fault(0)", x.fault(0), 2);
        Bench.due("fault(1)", x.fault(1), 6);
        Bench.due("status(1)", x.status(1), 1);
    }
}
