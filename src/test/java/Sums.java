import java.util.Random;
import java.util.function.ToIntFunction;

/** SUMS and TESTS by chance, each as a text and as what it must answer. */
final class Sums {
    static final class Tree {
        final String text;
        final ToIntFunction<int[]> by;

        Tree(String text, ToIntFunction<int[]> by) {
            this.text = text;
            this.by = by;
        }
    }

    private static final String[] OF_MOVE = {"taken", "check", "off", "day"};
    private static final String[] OF_MAN = {"number", "column", "row", "side", "worth", "reach", "moves", "day"};

    private Sums() {
    }

    private static int edged(long number) {
        return (int) (number > 1000000 ? 1000000 : number < -1000000 ? -1000000 : number);
    }

    private static String blank(Random chance) {
        return chance.nextInt(3) == 0 ? (chance.nextBoolean() ? " " : "\n") : "";
    }

    /** Facts of a move: taken, check, off, day. Of a MAN: those of OF_MAN, then how far each FIELD is. */
    static Tree sum(Random chance, int open, boolean ofMan) {
        Tree all = product(chance, open, ofMan);
        for (int i = chance.nextInt(3); i > 0; i--) {
            Tree left = all;
            Tree right = product(chance, open, ofMan);
            boolean more = chance.nextBoolean();
            all = new Tree(left.text + blank(chance) + (more ? "+" : "-") + blank(chance) + right.text,
                f -> edged((long) left.by.applyAsInt(f) + (more ? 1L : -1L) * right.by.applyAsInt(f)));
        }
        return all;
    }

    private static Tree product(Random chance, int open, boolean ofMan) {
        Tree all = part(chance, open, ofMan);
        for (int i = chance.nextInt(3); i > 0; i--) {
            Tree left = all;
            Tree right = part(chance, open, ofMan);
            if (chance.nextBoolean()) {
                all = new Tree(left.text + "*" + blank(chance) + right.text,
                    f -> edged((long) left.by.applyAsInt(f) * right.by.applyAsInt(f)));
            } else {
                all = new Tree(left.text + blank(chance) + "/" + right.text,
                    f -> over(left.by.applyAsInt(f), right.by.applyAsInt(f)));
            }
        }
        return all;
    }

    private static int over(int a, int b) {
        return b == 0 ? 0 : (int) Math.floor((double) a / b);
    }

    private static Tree part(Random chance, int open, boolean ofMan) {
        int sort = chance.nextInt(open > 0 ? 9 : 5);
        if (sort < 2) {
            int most = new int[] {10, 100, 10000}[chance.nextInt(3)];
            int n = chance.nextInt(most);
            return new Tree("" + n, f -> n);
        }
        if (sort < 5) {
            String[] words = ofMan ? OF_MAN : OF_MOVE;
            int k = chance.nextInt(words.length);
            return new Tree(words[k], f -> f[k]);
        }
        if (sort == 5 || !ofMan && sort == 8) {
            Tree inner = sum(chance, open - 1, ofMan);
            return new Tree("(" + inner.text + blank(chance) + ")", inner.by);
        }
        if (sort == 8) {
            Tree inner = part(chance, open - 1, true);
            return new Tree("off " + inner.text, f -> far(f, inner.by.applyAsInt(f)));
        }
        Tree a = sum(chance, open - 1, ofMan);
        Tree b = sum(chance, open - 1, ofMan);
        boolean min = sort == 6;
        return new Tree((min ? "min" : "max") + blank(chance) + "(" + a.text + "," + b.text + ")",
            f -> min ? Math.min(a.by.applyAsInt(f), b.by.applyAsInt(f)) : Math.max(a.by.applyAsInt(f), b.by.applyAsInt(f)));
    }

    private static int far(int[] facts, int field) {
        return field >= 0 && OF_MAN.length + field < facts.length ? facts[OF_MAN.length + field] : 0;
    }

    static Tree test(Random chance, int open) {
        Tree all = both(chance, open);
        for (int i = chance.nextInt(3); i > 0; i--) {
            Tree left = all;
            Tree right = both(chance, open);
            all = new Tree(left.text + " or " + right.text, f -> left.by.applyAsInt(f) + right.by.applyAsInt(f) > 0 ? 1 : 0);
        }
        return all;
    }

    private static Tree both(Random chance, int open) {
        Tree all = fact(chance, open);
        for (int i = chance.nextInt(3); i > 0; i--) {
            Tree left = all;
            Tree right = fact(chance, open);
            all = new Tree(left.text + " and " + right.text, f -> left.by.applyAsInt(f) * right.by.applyAsInt(f));
        }
        return all;
    }

    private static Tree fact(Random chance, int open) {
        int sort = chance.nextInt(open > 0 ? 6 : 4);
        if (sort == 0) {
            return new Tree("all", f -> 1);
        }
        if (sort < 4) {
            Tree a = sum(chance, Math.min(open, 2), true);
            Tree b = sum(chance, Math.min(open, 2), true);
            char sign = "<>=".charAt(chance.nextInt(3));
            return new Tree(a.text + blank(chance) + sign + blank(chance) + b.text, f -> {
                int x = a.by.applyAsInt(f);
                int y = b.by.applyAsInt(f);
                return (sign == '<' ? x < y : sign == '>' ? x > y : x == y) ? 1 : 0;
            });
        }
        if (sort == 4) {
            Tree inner = fact(chance, open - 1);
            return new Tree("not " + inner.text, f -> 1 - inner.by.applyAsInt(f));
        }
        Tree inner = test(chance, open - 1);
        return new Tree("[" + inner.text + "]", inner.by);
    }
}
