import java.util.List;
import java.util.Random;

/** Promises 6 to 35 on boards by chance, against the plain model of the same document. */
public final class PlainModelTest {
    private static final Random CHANCE = new Random(20261118);
    private static PlainModel m;
    private static GardenChess x;

    public static void main(String[] args) {
        for (int run = 0; run < 250; run++) {
            m = PlainModel.any(CHANCE);
            if (m.text.length() > 1600) {
                continue;
            }
            x = Bench.on(m.text);
            for (int turn = 0; turn < 6; turn++) {
                compare("run " + run + ", turn " + turn + " of " + m.text + ": ");
                act("run " + run + ", turn " + turn + " of " + m.text + ": ");
            }
        }
        forced();
        Bench.close("PlainModelTest");
    }

    /** What is FORCED on small boards, where it often is by 2. */
    private static void forced() {
        int[] found = new int[4];
        for (int run = 0; run < 60000; run++) {
            m = PlainModel.any(CHANCE);
            if (m.columns * m.rows <= 12 && m.men >= 2 && m.men <= 5 && m.text.length() <= 1600) {
                x = Bench.on(m.text);
                int by = m.forced(m.now);
                found[by + 1]++;
                Bench.due("forced of " + m.text, x.forced(), by);
            }
        }
        Bench.due("FORCED by 1 is among them", found[2] > 100, true);
        Bench.due("FORCED by 2 is among them", found[3] > 30, true);
    }

    private static void compare(String of) {
        counts(of);
        moves(of);
        play(of);
        ahead(of);
        which(of);
        questions(of);
        image(of);
    }

    private static void counts(String of) {
        PlainModel.State s = m.now;
        int taken = 0;
        for (int man = 0; man < m.men; man++) {
            taken += s.taken(man) ? 1 : 0;
            Bench.due(of + "man column", x.man(man, 0), s.column[man]);
            Bench.due(of + "man row", x.man(man, 1), s.row[man]);
            Bench.due(of + "man kind", x.man(man, 2), m.kindOf[man]);
            Bench.due(of + "man side", x.man(man, 3), m.sideOf[man]);
            Bench.due(of + "man moves", x.man(man, 4), m.movesOf(s, man));
        }
        int[] want = {m.columns, m.rows, m.kinds, m.men, m.fields, s.day, s.side, m.over(s) ? 1 : 0, taken,
            m.borne(s), Math.min(40, s.kept.size())};
        for (int what = 0; what < want.length; what++) {
            Bench.due(of + "has " + what, x.has(what), want[what]);
        }
        Bench.due(of + "has 12", x.has(12), m.past.size());
        for (int f = 0; f < m.fields; f++) {
            Bench.due(of + "field column", x.field(f, 0), m.fieldColumn[f]);
            Bench.due(of + "field row", x.field(f, 1), m.fieldRow[f]);
            Bench.due(of + "field bears", x.field(f, 2), s.bears[f]);
        }
        for (int c = -1; c <= 5; c++) {
            for (int r = -1; r <= 5; r++) {
                boolean there = c >= 0 && r >= 0 && c < m.columns && r < m.rows;
                Bench.due(of + "at", x.at(c, r), there ? s.at(c, r) : -1);
            }
        }
        int from = Math.max(0, s.kept.size() - 40);
        for (int k = from; k < s.kept.size(); k++) {
            for (int what = 0; what < 5; what++) {
                Bench.due(of + "kept", x.kept(k - from, what), s.kept.get(k)[what]);
            }
        }
        Bench.due(of + "kept behind", x.kept(s.kept.size() - from, 0), -1);
    }

    private static void moves(String of) {
        List<int[]> all = m.moves(m.now);
        for (int k = 0; k < all.size(); k++) {
            int[] move = all.get(k);
            int taken = m.now.at(move[1], move[2]);
            int[] want = {move[0], move[1], move[2], taken < 0 ? 255 : taken, m.check(m.now, move) ? 1 : 0};
            for (int what = 0; what < 5; what++) {
                Bench.due(of + "option " + k + " " + what, x.option(k, what), want[what]);
            }
        }
        Bench.due(of + "option behind", x.option(all.size(), 0), -1);
        Bench.due(of + "option ahead", x.option(-1, 0), -1);
    }

    private static void play(String of) {
        Bench.due(of + "balance 0", x.balance(0), m.balance(m.now, 0));
        Bench.due(of + "balance 1", x.balance(1), m.balance(m.now, 1));
        for (int d = 0; d <= 2; d++) {
            Bench.due(of + "value " + d, x.value(d), m.value(m.now, d));
        }
        Bench.due(of + "best 1", x.best(1), m.best(m.now, 1));
        Bench.due(of + "best 2", x.best(2), m.best(m.now, 2));
        if (m.moves(m.now).size() < 14) {
            Bench.due(of + "value 3", x.value(3), m.value(m.now, 3));
            Bench.due(of + "best 3", x.best(3), m.best(m.now, 3));
        }
        Bench.due(of + "forced", x.forced(), m.forced(m.now));
    }

    private static void ahead(String of) {
        int n = CHANCE.nextInt(8);
        PlainModel.State s = m.ahead(m.now, n, m.deep);
        int[] men = new int[2];
        for (int man = 0; man < m.men; man++) {
            men[m.sideOf[man]] += s.taken(man) ? 0 : 1;
        }
        Bench.due(of + "later 0", x.later(n, 0), men[0]);
        Bench.due(of + "later 1", x.later(n, 1), men[1]);
        Bench.due(of + "later 2", x.later(n, 2), m.borne(s));
        Bench.due(of + "later 3", x.later(n, 3), m.over(s) ? 1 : 0);
        for (int f = 0; f < m.fields; f++) {
            Bench.due(of + "crop", x.crop(f, n), s.bears[f]);
        }
        if (m.fields > 0) {
            int f = CHANCE.nextInt(m.fields);
            int days = m.moves(m.now).size() < 14 ? 1 + CHANCE.nextInt(3) : 1;
            int[] spared = m.spare(m.now, f, days);
            Bench.due(of + "spare move", x.spare(f, days, 0), spared[0]);
            Bench.due(of + "spare bears", x.spare(f, days, 1), spared[1]);
        }
        n = CHANCE.nextInt(4);
        int[] sown = m.sow(m.now, n);
        for (int what = 0; what < 3; what++) {
            Bench.due(of + "sow " + what, x.sow(n, what), sown[what]);
        }
        int side = CHANCE.nextInt(2);
        int[] looks = m.deep.clone();
        looks[side] = 1 + CHANCE.nextInt(2);
        n = CHANCE.nextInt(6);
        int more = m.borne(m.ahead(m.now, n, looks)) - m.borne(m.ahead(m.now, n, m.deep));
        Bench.due(of + "deeper", x.deeper(side, looks[side], n), more);
    }

    private static void which(String of) {
        List<int[]> all = m.moves(m.now);
        if (m.fields > 0 && !all.isEmpty()) {
            PlainModel.State behind = m.day(m.now, all.get(CHANCE.nextInt(all.size())));
            int rows = 1 + CHANCE.nextInt(3);
            int[] seen = new int[3 * rows];
            for (int i = 0; i < rows; i++) {
                int f = CHANCE.nextInt(m.fields);
                seen[3 * i] = f;
                seen[3 * i + 1] = behind.bears[f] / 256;
                seen[3 * i + 2] = behind.bears[f] % 256;
            }
            Bench.tape(x, seen);
            Bench.due(of + "see", x.see(), rows);
            Bench.due(of + "has 11", x.has(11), rows);
            playedAsSeen(of, all, seen);
        }
        int n = all.size() < 14 ? CHANCE.nextInt(4) : CHANCE.nextInt(3);
        PlainModel.State s = m.now;
        for (int i = 0; i < n; i++) {
            List<int[]> moves = m.moves(s);
            s = moves.isEmpty() ? s : m.moved(s, moves.get(CHANCE.nextInt(moves.size())));
        }
        int[] bytes = new int[2 * m.men];
        for (int man = 0; man < m.men; man++) {
            bytes[2 * man] = s.column[man] & 255;
            bytes[2 * man + 1] = s.row[man] & 255;
        }
        Bench.tape(x, bytes);
        Bench.due(of + "reached " + n, x.reached(n), m.reached(m.now, s.column, s.row, n));
    }

    private static void playedAsSeen(String of, List<int[]> all, int[] seen) {
        int many = 0;
        int first = -1;
        int last = -1;
        for (int k = 0; k < all.size(); k++) {
            PlainModel.State behind = m.day(m.now, all.get(k));
            boolean so = true;
            for (int i = 0; i < seen.length; i += 3) {
                so = so && behind.bears[seen[i]] == 256 * seen[i + 1] + seen[i + 2];
            }
            if (so) {
                many++;
                first = first < 0 ? k : first;
                last = k;
            }
        }
        Bench.due(of + "played 0", x.played(0), many);
        Bench.due(of + "played 1", x.played(1), first);
        Bench.due(of + "played 2", x.played(2), last);
    }

    private static int[] facts(int man) {
        PlainModel.State s = m.now;
        int[] facts = new int[8 + m.fields];
        int kind = m.kindOf[man];
        int[] own = {man, s.column[man], s.row[man], m.sideOf[man], m.worth[kind], m.reach[kind], m.movesOf(s, man), s.day};
        System.arraycopy(own, 0, facts, 0, 8);
        for (int f = 0; f < m.fields; f++) {
            facts[8 + f] = Math.max(Math.abs(s.column[man] - m.fieldColumn[f]), Math.abs(s.row[man] - m.fieldRow[f]));
        }
        return facts;
    }

    private static void questions(String of) {
        String[] words = {"first", "last", "often", "total", "most", "least"};
        for (int sort = 0; sort < 6; sort++) {
            Sums.Tree tree = sort < 3 ? Sums.test(CHANCE, 3) : Sums.sum(CHANCE, 4, true);
            String text = words[sort] + " " + tree.text;
            if (text.length() > 1600) {
                continue;
            }
            long[] found = {-1, -1, 0, 0, Long.MIN_VALUE, Long.MAX_VALUE};
            boolean any = false;
            for (int man = 0; man < m.men; man++) {
                if (m.now.taken(man)) {
                    continue;
                }
                int answer = tree.by.applyAsInt(facts(man));
                any = true;
                found[0] = answer != 0 && found[0] < 0 ? man : found[0];
                found[1] = answer != 0 ? man : found[1];
                found[2] += answer;
                found[3] += answer;
                found[4] = Math.max(found[4], answer);
                found[5] = Math.min(found[5], answer);
            }
            Bench.due(of + text, Bench.ask(x, text), any || sort < 4 ? found[sort] : 0);
            Bench.due(of + text + " fault", x.fault(0), 0);
        }
    }

    private static int[] imageOf() {
        int[] bytes = new int[4 + 2 * m.men + 2 * m.fields];
        bytes[0] = m.now.day / 256;
        bytes[1] = m.now.day % 256;
        bytes[2] = m.now.side;
        for (int man = 0; man < m.men; man++) {
            bytes[3 + 2 * man] = m.now.column[man] & 255;
            bytes[4 + 2 * man] = m.now.row[man] & 255;
        }
        for (int f = 0; f < m.fields; f++) {
            bytes[3 + 2 * m.men + 2 * f] = m.now.bears[f] / 256;
            bytes[4 + 2 * m.men + 2 * f] = m.now.bears[f] % 256;
        }
        return Bench.marked(bytes);
    }

    private static void image(String of) {
        int[] want = imageOf();
        Bench.due(of + "image", x.image(), want.length);
        for (int k = 0; k < want.length; k++) {
            Bench.due(of + "octet " + k, x.octet(k), want[k]);
        }
    }

    private static void act(String of) {
        List<int[]> all = m.moves(m.now);
        int sort = CHANCE.nextInt(7);
        if (sort <= 1 && !all.isEmpty()) {
            int k = CHANCE.nextInt(all.size());
            int taken = m.now.at(all.get(k)[1], all.get(k)[2]);
            m.act();
            m.now = m.day(m.now, all.get(k));
            Bench.due(of + "play " + k, x.play(k), taken < 0 ? 255 : taken);
        } else if (sort == 2 && m.fields > 0) {
            int f = CHANCE.nextInt(m.fields);
            int more = 1 + CHANCE.nextInt(99);
            m.act();
            m.now = m.now.twin();
            m.now.bears[f] = Math.min(999, m.now.bears[f] + more);
            Bench.due(of + "tend", x.tend(f, more), m.now.bears[f]);
        } else if (sort == 3) {
            int n = 1 + CHANCE.nextInt(5);
            int ahead = m.now.kept.size();
            m.act();
            m.now = m.ahead(m.now, n, m.deep);
            Bench.due(of + "days " + n, x.days(n), m.now.kept.size() - ahead);
        } else if (sort == 4) {
            int n = 1 + CHANCE.nextInt(5);
            m.act();
            Bench.due(of + "chance " + n, x.chance(n), m.chance(n));
        } else if (sort == 5) {
            boolean can = !m.past.isEmpty();
            Bench.due(of + "undo", x.undo(), can);
            m.now = can ? m.past.remove(m.past.size() - 1) : m.now;
        } else if (sort == 6) {
            anyImage(of);
        }
    }

    /** An image as it could be of this board, whatever happened, or one MEN of which share a place. */
    private static void anyImage(String of) {
        PlainModel.State s = m.now.twin();
        s.kept.clear();
        s.day = CHANCE.nextInt(950);
        s.side = CHANCE.nextInt(2);
        boolean right = true;
        for (int man = 0; man < m.men; man++) {
            boolean taken = CHANCE.nextInt(6) == 0;
            s.column[man] = taken ? -1 : CHANCE.nextInt(m.columns);
            s.row[man] = taken ? -1 : CHANCE.nextInt(m.rows);
            right = right && (taken || s.at(s.column[man], s.row[man]) == man);
            for (int other = man + 1; other < m.men; other++) {
                s.column[other] = -1;
                s.row[other] = -1;
            }
        }
        for (int f = 0; f < m.fields; f++) {
            s.bears[f] = CHANCE.nextInt(1000);
        }
        PlainModel.State ahead = m.now;
        m.now = s;
        Bench.tape(x, imageOf());
        Bench.due(of + "on", x.on(), right);
        if (right) {
            m.past.clear();
        } else {
            m.now = ahead;
        }
    }
}
