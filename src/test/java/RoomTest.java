import com.sun.management.ThreadMXBean;
import java.lang.management.ManagementFactory;
import java.lang.reflect.Array;
import java.lang.reflect.Field;
import java.lang.reflect.Modifier;
import java.util.Collections;
import java.util.IdentityHashMap;
import java.util.Set;

/** All calls of one run live in one room: a constructor makes little, and no call makes anything. */
public final class RoomTest {
    private static final int RUN = 512;
    private static final int ROOM_OBJECTS = 600_000;
    private static final int ROOM_ELEMENTS = 7_300_000;

    private static final String BOARD = "board 4 by 4 white 2 black 2;kind r ways 1 reach 4 worth 5;kind k ways 3 reach 1 worth 9 crown;"
        + "kind l ways 4 reach 1 worth 3;man wr is r of 0 at 0 0;man wk is k of 0 at 1 0;man wl is l of 0 at 3 0;"
        + "man br is r of 1 at 3 3;man bk is k of 1 at 2 3;man bl is l of 1 at 0 3;field f at 1 1 bears 100;field g at 2 0 bears 50;"
        + "harm max(taken*2-off,min(day,3))+check*(4-off);grows 2;sleepy 50;";
    private static final String QUESTION = "total off number*(moves+worth)-max(column,row)/side";

    private static int objects = 0;
    private static int elements = 0;
    private static long sum = 0;

    public static void main(String[] args) throws IllegalAccessException {
        count(new GardenChess(), Collections.newSetFromMap(new IdentityHashMap<>()));
        Bench.due("a run of constructors alone has room: objects, " + objects, (long) RUN * objects < ROOM_OBJECTS, true);
        Bench.due("a run of constructors alone has room: elements, " + elements, (long) RUN * elements < ROOM_ELEMENTS, true);
        GardenChess x = new GardenChess();
        int[] board = words(BOARD);
        int[] question = words(QUESTION);
        // The machine itself makes something now and then, so the least of some runs counts.
        ThreadMXBean threads = (ThreadMXBean) ManagementFactory.getThreadMXBean();
        long least = Long.MAX_VALUE;
        for (int i = 0; i < 10; i++) {
            long ahead = threads.getCurrentThreadAllocatedBytes();
            useAll(x, board, question);
            least = Math.min(least, threads.getCurrentThreadAllocatedBytes() - ahead);
        }
        Bench.due("what all calls make", least, 0);
        Bench.due("they answer", sum != 0, true);
        Bench.close("RoomTest");
    }

    private static void count(Object one, Set<Object> counted) throws IllegalAccessException {
        if (one == null || !counted.add(one)) {
            return;
        }
        objects++;
        Class<?> type = one.getClass();
        if (type.isArray()) {
            elements += Array.getLength(one);
            return;
        }
        for (Field field : type.getDeclaredFields()) {
            if (Modifier.isStatic(field.getModifiers())) {
                continue;
            }
            elements++;
            if (!field.getType().isPrimitive()) {
                field.setAccessible(true);
                count(field.get(one), counted);
            }
        }
    }

    /** How many bytes, then the numbers to feed. */
    private static int[] words(String text) {
        int[] words = new int[1 + (text.length() + 19) / 20 * 5];
        words[0] = text.length();
        for (int k = 0; k < (words.length - 1) * 4; k++) {
            words[1 + k / 4] = words[1 + k / 4] << 8 | (k < text.length() ? text.charAt(k) : ' ');
        }
        return words;
    }

    private static void feed(GardenChess x, int[] words) {
        for (int i = 1; i + 4 < words.length; i += 5) {
            sum += x.feed(words[i], words[i + 1], words[i + 2], words[i + 3], words[i + 4]);
        }
        sum += x.end(words[0]) ? 1 : 0;
    }

    private static void useAll(GardenChess x, int[] board, int[] question) {
        feed(x, board);
        sum += x.board() + x.fault(0) + (x.seed(5) ? 1 : 0) + x.see() + x.reached(1);
        sum += x.play(2) + x.tend(1, 3) + x.days(2) + x.chance(2) + (x.undo() ? 1 : 0);
        for (int what = 0; what < 14; what++) {
            sum += x.has(what) + x.letter(1, what, 0) + x.kind(1, what) + x.man(1, what) + x.field(1, what);
            sum += x.at(what, 0) + x.option(0, what) + x.kept(0, what) + x.status(what) + x.played(what) + x.octet(what);
        }
        sum += x.balance(0) + x.value(3) + x.best(3) + x.forced() + x.later(4, 2) + x.crop(0, 4);
        sum += x.spare(0, 2, 0) + x.sow(4, 2) + x.deeper(0, 1, 4);
        feed(x, question);
        sum += x.ask();
        x.feed(0x00006400, 0, 0, 0, 0);
        x.end(3);
        sum += x.see() + x.played(0);
        int length = x.image();
        for (int k = 0; k < length; k += 20) {
            sum += x.feed(four(x, k), four(x, k + 4), four(x, k + 8), four(x, k + 12), four(x, k + 16));
        }
        x.end(length);
        sum += x.on() ? 1 : 0;
        x.feed(0, 0, 0, 0, 0);
        sum += x.on() ? 1 : 0;
    }

    private static int four(GardenChess x, int k) {
        return x.octet(k) << 24 | (x.octet(k + 1) & 255) << 16 | (x.octet(k + 2) & 255) << 8 | x.octet(k + 3) & 255;
    }
}
