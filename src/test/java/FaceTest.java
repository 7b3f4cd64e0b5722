import java.lang.reflect.Constructor;
import java.lang.reflect.Field;
import java.lang.reflect.Member;
import java.lang.reflect.Method;
import java.lang.reflect.Modifier;
import java.util.ArrayList;
import java.util.Arrays;
import java.util.Collections;
import java.util.List;

/** "The public face": each constant, constructor and method as it stands there, and no other. */
public final class FaceTest {
    private static final String[] FACE = {
        "public static final int NONE",
        "public static final long NOTHING",
        "public GardenChess()",
        "public int feed(int, int, int, int, int)",
        "public boolean end(int)",
        "public int board()",
        "public int fault(int)",
        "public int has(int)",
        "public int letter(int, int, int)",
        "public int kind(int, int)",
        "public int man(int, int)",
        "public int field(int, int)",
        "public int at(int, int)",
        "public int option(int, int)",
        "public int kept(int, int)",
        "public long balance(int)",
        "public long value(int)",
        "public int best(int)",
        "public int forced()",
        "public int later(int, int)",
        "public int crop(int, int)",
        "public int spare(int, int, int)",
        "public int sow(int, int)",
        "public long deeper(int, int, int)",
        "public int see()",
        "public int played(int)",
        "public int reached(int)",
        "public int play(int)",
        "public int tend(int, int)",
        "public int days(int)",
        "public int chance(int)",
        "public boolean undo()",
        "public boolean seed(int)",
        "public long ask()",
        "public int image()",
        "public int octet(int)",
        "public boolean on()",
        "public int status(int)",
    };

    public static void main(String[] args) throws ReflectiveOperationException {
        Class<?> face = GardenChess.class;
        Bench.due("public", Modifier.isPublic(face.getModifiers()), true);
        Bench.due("final", Modifier.isFinal(face.getModifiers()), true);
        Bench.due("no package", face.getPackageName().isEmpty(), true);
        Bench.due("no class above it", face.getSuperclass() == Object.class && face.getInterfaces().length == 0, true);
        List<String> due = new ArrayList<>(Arrays.asList(FACE));
        List<String> found = members(face);
        Collections.sort(due);
        Collections.sort(found);
        for (String member : due) {
            Bench.due("there is " + member, found.contains(member), true);
        }
        for (String member : found) {
            Bench.due("the document has " + member, due.contains(member), true);
        }
        Bench.due("how many", found.size(), FACE.length);
        // By reflection, since a compiler writes a constant into the test itself.
        Bench.due("NONE", face.getField("NONE").getInt(null), -1);
        Bench.due("NOTHING", face.getField("NOTHING").getLong(null), -1000000000000000L);
        Bench.close("FaceTest");
    }

    /** All members but the private ones, and the classes inside. */
    private static List<String> members(Class<?> face) {
        List<String> found = new ArrayList<>();
        for (Field field : face.getDeclaredFields()) {
            if (isSeen(field)) {
                found.add(Modifier.toString(field.getModifiers()) + " " + field.getType() + " " + field.getName());
            }
        }
        for (Constructor<?> maker : face.getDeclaredConstructors()) {
            if (isSeen(maker)) {
                found.add(head(maker) + maker.getName() + taking(maker.getParameterTypes()));
            }
        }
        for (Method method : face.getDeclaredMethods()) {
            if (isSeen(method)) {
                found.add(head(method) + method.getReturnType() + " " + method.getName() + taking(method.getParameterTypes()));
            }
        }
        return found;
    }

    private static boolean isSeen(Member member) {
        return !Modifier.isPrivate(member.getModifiers()) && !member.isSynthetic();
    }

    private static String head(Member member) {
        String modifiers = Modifier.toString(member.getModifiers());
        return modifiers.isEmpty() ? "" : modifiers + " ";
    }

    private static String taking(Class<?>[] types) {
        List<String> names = new ArrayList<>();
        for (Class<?> type : types) {
            names.add(type.getName());
        }
        return "(" + String.join(", ", names) + ")";
    }
}
