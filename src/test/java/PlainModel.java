import java.util.ArrayList;
import java.util.List;
import java.util.Random;
import java.util.function.ToIntFunction;

/**
 * The document's game once more, in the slowest and plainest way: states are copied, MOVES are
 * found by asking of each place whether a MAN can go there. PlainModelTest compares with it.
 */
final class PlainModel {
    static final class State {
        int[] column;
        int[] row;
        int[] bears;
        int day;
        int side;
        List<int[]> kept = new ArrayList<>();

        State twin() {
            State s = new State();
            s.column = column.clone();
            s.row = row.clone();
            s.bears = bears.clone();
            s.day = day;
            s.side = side;
            s.kept = new ArrayList<>(kept);
            return s;
        }

        boolean taken(int man) {
            return column[man] < 0;
        }

        int at(int c, int r) {
            for (int man = 0; man < column.length; man++) {
                if (column[man] == c && row[man] == r) {
                    return man;
                }
            }
            return -1;
        }
    }

    int columns;
    int rows;
    int[] deep = new int[2];
    int kinds;
    int[] ways;
    int[] reach;
    int[] worth;
    boolean[] crown;
    int men;
    int[] kindOf;
    int[] sideOf;
    int fields;
    int[] fieldColumn;
    int[] fieldRow;
    /** Of taken, check, off, day; null without. */
    ToIntFunction<int[]> harm;
    int grows;
    int sleepy;
    State now = new State();
    List<State> past = new ArrayList<>();
    long seed = 1;
    String text;

    // ---- a board by chance

    static PlainModel any(Random chance) {
        PlainModel m = new PlainModel();
        StringBuilder t = new StringBuilder();
        m.columns = 2 + chance.nextInt(4);
        m.rows = 2 + chance.nextInt(4);
        m.deep[0] = 1 + chance.nextInt(2);
        m.deep[1] = 1 + chance.nextInt(2);
        t.append("board ").append(m.columns).append(" by ").append(m.rows).append(" white ")
            .append(m.deep[0]).append(" black ").append(m.deep[1]).append(";");
        m.anyKinds(chance, t);
        m.anyMen(chance, t);
        m.anyFields(chance, t);
        if (chance.nextInt(4) > 0) {
            Sums.Tree sum = Sums.sum(chance, 3, false);
            t.append("harm ").append(sum.text).append(";");
            m.harm = sum.by;
        }
        if (chance.nextBoolean()) {
            m.grows = chance.nextInt(20);
            t.append("grows ").append(m.grows).append(";");
        }
        if (chance.nextBoolean()) {
            m.sleepy = chance.nextInt(101);
            t.append("sleepy ").append(m.sleepy).append(";");
        }
        m.text = t.toString();
        return m;
    }

    private void anyKinds(Random chance, StringBuilder t) {
        kinds = 1 + chance.nextInt(5);
        ways = new int[kinds];
        reach = new int[kinds];
        worth = new int[kinds];
        crown = new boolean[kinds];
        for (int i = 0; i < kinds; i++) {
            ways[i] = 1 + chance.nextInt(4);
            reach[i] = 1 + chance.nextInt(4);
            worth[i] = chance.nextInt(chance.nextBoolean() ? 4 : 100);
            crown[i] = chance.nextInt(3) == 0;
            t.append("kind k").append((char) ('a' + i)).append(" ways ").append(ways[i]).append(" reach ")
                .append(reach[i]).append(" worth ").append(worth[i]).append(crown[i] ? " crown;" : ";");
        }
    }

    private void anyMen(Random chance, StringBuilder t) {
        men = Math.min(chance.nextInt(9), columns * rows);
        kindOf = new int[men];
        sideOf = new int[men];
        now.column = new int[men];
        now.row = new int[men];
        for (int man = 0; man < men; man++) {
            now.column[man] = -1;
            now.row[man] = -1;
        }
        for (int man = 0; man < men; man++) {
            int c;
            int r;
            do {
                c = chance.nextInt(columns);
                r = chance.nextInt(rows);
            } while (now.at(c, r) >= 0);
            kindOf[man] = chance.nextInt(kinds);
            sideOf[man] = chance.nextInt(2);
            now.column[man] = c;
            now.row[man] = r;
            t.append("man m").append((char) ('a' + man)).append(" is k").append((char) ('a' + kindOf[man]))
                .append(" of ").append(sideOf[man]).append(" at ").append(c).append(" ").append(r).append(";");
        }
    }

    private void anyFields(Random chance, StringBuilder t) {
        fields = chance.nextInt(7);
        fieldColumn = new int[fields];
        fieldRow = new int[fields];
        now.bears = new int[fields];
        for (int f = 0; f < fields; f++) {
            fieldColumn[f] = chance.nextInt(columns);
            fieldRow[f] = chance.nextInt(rows);
            now.bears[f] = 1 + chance.nextInt(999);
            t.append("field f").append((char) ('a' + f)).append(" at ").append(fieldColumn[f]).append(" ")
                .append(fieldRow[f]).append(" bears ").append(now.bears[f]).append(";");
        }
    }

    // ---- MOVES

    boolean goes(State s, int man, int c, int r) {
        if (s.taken(man) || c < 0 || r < 0 || c >= columns || r >= rows) {
            return false;
        }
        int there = s.at(c, r);
        if (there >= 0 && sideOf[there] == sideOf[man]) {
            return false;
        }
        int dc = Math.abs(c - s.column[man]);
        int dr = Math.abs(r - s.row[man]);
        int way = ways[kindOf[man]];
        if (way == 4) {
            return dc == 1 && dr == 2 || dc == 2 && dr == 1;
        }
        boolean straight = (dc == 0) != (dr == 0);
        boolean aslant = dc == dr && dc > 0;
        if (!(way != 2 && straight || way != 1 && aslant) || Math.max(dc, dr) > reach[kindOf[man]]) {
            return false;
        }
        for (int i = 1; i < Math.max(dc, dr); i++) {
            int cc = s.column[man] + i * Integer.signum(c - s.column[man]);
            int rr = s.row[man] + i * Integer.signum(r - s.row[man]);
            if (s.at(cc, rr) >= 0) {
                return false;
            }
        }
        return true;
    }

    int movesOf(State s, int man) {
        int many = 0;
        for (int r = 0; r < rows; r++) {
            for (int c = 0; c < columns; c++) {
                many += goes(s, man, c, r) ? 1 : 0;
            }
        }
        return many;
    }

    boolean crownTaken(State s) {
        for (int man = 0; man < men; man++) {
            if (s.taken(man) && crown[kindOf[man]]) {
                return true;
            }
        }
        return false;
    }

    /** Rows of MAN, column, row; none when a CROWN is TAKEN. */
    List<int[]> moves(State s) {
        List<int[]> all = new ArrayList<>();
        if (crownTaken(s)) {
            return all;
        }
        for (int man = 0; man < men; man++) {
            for (int r = 0; r < rows; r++) {
                for (int c = 0; c < columns; c++) {
                    if (sideOf[man] == s.side && goes(s, man, c, r)) {
                        all.add(new int[] {man, c, r});
                    }
                }
            }
        }
        return all;
    }

    boolean over(State s) {
        return moves(s).isEmpty();
    }

    /** The board behind a move, the other SIDE to move; nothing else changes. */
    State moved(State s, int[] move) {
        State t = s.twin();
        int taken = s.at(move[1], move[2]);
        if (taken >= 0) {
            t.column[taken] = -1;
            t.row[taken] = -1;
        }
        t.column[move[0]] = move[1];
        t.row[move[0]] = move[2];
        t.side = 1 - s.side;
        return t;
    }

    boolean check(State s, int[] move) {
        State t = moved(s, move);
        for (int man = 0; man < men; man++) {
            for (int other = 0; other < men; other++) {
                if (sideOf[man] == s.side && sideOf[other] != s.side && crown[kindOf[other]] && !t.taken(other)
                    && goes(t, man, t.column[other], t.row[other])) {
                    return true;
                }
            }
        }
        return false;
    }

    // ---- play

    int balance(State s, int side) {
        int all = 0;
        for (int man = 0; man < men; man++) {
            if (!s.taken(man)) {
                all += sideOf[man] == side ? worth[kindOf[man]] : -worth[kindOf[man]];
            }
        }
        return all;
    }

    int value(State s, int d) {
        if (d == 0 || over(s)) {
            return balance(s, s.side);
        }
        int most = Integer.MIN_VALUE;
        for (int[] move : moves(s)) {
            most = Math.max(most, -value(moved(s, move), d - 1));
        }
        return most;
    }

    int best(State s, int d) {
        List<int[]> all = moves(s);
        int value = value(s, d);
        for (int k = 0; k < all.size(); k++) {
            if (-value(moved(s, all.get(k)), d - 1) == value) {
                return k;
            }
        }
        return -1;
    }

    private boolean takes(State s) {
        for (int[] move : moves(s)) {
            int taken = s.at(move[1], move[2]);
            if (taken >= 0 && crown[kindOf[taken]]) {
                return true;
            }
        }
        return false;
    }

    int forced(State s) {
        if (takes(s)) {
            return 1;
        }
        for (int[] move : moves(s)) {
            State t = moved(s, move);
            boolean all = !over(t);
            for (int[] reply : moves(t)) {
                all = all && takes(moved(t, reply));
            }
            if (all) {
                return 2;
            }
        }
        return -1;
    }

    // ---- DAYS

    int harmAt(State s, int[] move, int c, int r) {
        int taken = s.at(move[1], move[2]);
        int worthTaken = taken < 0 ? 0 : worth[kindOf[taken]];
        if (harm == null) {
            return worthTaken;
        }
        int off = Math.max(Math.abs(c - move[1]), Math.abs(r - move[2]));
        return Math.max(0, harm.applyAsInt(new int[] {worthTaken, check(s, move) ? 1 : 0, off, s.day}));
    }

    State day(State s, int[] move) {
        State t = move == null ? s.twin() : moved(s, move);
        for (int f = 0; f < fields; f++) {
            int less = move == null ? 0 : harmAt(s, move, fieldColumn[f], fieldRow[f]);
            t.bears[f] = Math.min(999, Math.max(0, s.bears[f] - less) + grows);
        }
        if (move != null) {
            int taken = s.at(move[1], move[2]);
            t.kept.add(new int[] {s.day, move[0], move[1], move[2], taken < 0 ? 255 : taken});
        }
        t.side = 1 - s.side;
        t.day = s.day + 1;
        return t;
    }

    int[] ownMove(State s, int[] looks) {
        int k = best(s, looks[s.side]);
        return k < 0 ? null : moves(s).get(k);
    }

    State ahead(State s, int n, int[] looks) {
        State t = s;
        for (int i = 0; i < n; i++) {
            t = day(t, ownMove(t, looks));
        }
        return t;
    }

    int borne(State s) {
        int all = 0;
        for (int bears : s.bears) {
            all += bears;
        }
        return all;
    }

    /** Number of the MOVE, what the FIELD bears then. */
    int[] spare(State s, int field, int n) {
        int[] found = {-1, -1};
        List<int[]> all = moves(s);
        for (int k = 0; k < all.size(); k++) {
            int bears = ahead(day(s, all.get(k)), n - 1, deep).bears[field];
            if (bears > found[1]) {
                found = new int[] {k, bears};
            }
        }
        return found;
    }

    /** Column, row, harm together. */
    int[] sow(State s, int n) {
        int[] found = null;
        for (int r = 0; r < rows; r++) {
            for (int c = 0; c < columns; c++) {
                int all = 0;
                State t = s;
                for (int i = 0; i < n; i++) {
                    int[] move = ownMove(t, deep);
                    all += move == null ? 0 : harmAt(t, move, c, r);
                    t = day(t, move);
                }
                if (found == null || all < found[2]) {
                    found = new int[] {c, r, all};
                }
            }
        }
        found[2] = Math.min(found[2], 999999);
        return found;
    }

    int reached(State s, int[] column, int[] row, int n) {
        if (n == 0) {
            return java.util.Arrays.equals(s.column, column) && java.util.Arrays.equals(s.row, row) ? 1 : 0;
        }
        int all = 0;
        for (int[] move : moves(s)) {
            all += reached(moved(s, move), column, row, n - 1);
        }
        return all;
    }

    int draw(int m) {
        seed = (1103515245L * seed + 12345L) % (1L << 31);
        return (int) (seed / 64 % m);
    }

    /** Holds the state for undo; the last 20 alone. */
    void act() {
        past.add(now);
        if (past.size() > 20) {
            past.remove(0);
        }
    }

    int chance(int n) {
        int sleeps = 0;
        for (int i = 0; i < n; i++) {
            int[] move = ownMove(now, deep);
            if (move != null && draw(100) < sleepy) {
                sleeps++;
                List<int[]> all = moves(now);
                move = all.get(draw(all.size()));
            }
            now = day(now, move);
        }
        return sleeps;
    }
}
