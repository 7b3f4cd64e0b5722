import java.lang.reflect.Field;
import java.lang.reflect.Method;
import java.lang.reflect.Modifier;
import java.nio.file.Files;
import java.nio.file.Path;
import java.util.HashSet;
import java.util.Set;
import java.util.regex.Matcher;
import java.util.regex.Pattern;

/** Rules of LANGUAGE.md that can be seen from the source or by reflection, each by its number. */
public final class LanguageTest {
    private static final String SOURCE = "src/main/java/GardenChess.java";
    private static final String METHOD_HEAD = "^ +(public |private |static |final )*(?!new |return |else )[\\w\\[\\]]+ \\w+\\([^;]*\\) \\{$";
    private static String code;

    public static void main(String[] args) throws Exception {
        String text = Files.readString(Path.of(SOURCE));
        code = bare(text);
        words();
        library();
        lengths();
        Class<?>[] inside = GardenChess.class.getDeclaredClasses();
        Bench.due("rule 11: some twelve classes", inside.length + 1 <= 12, true);
        Set<String> face = publicNames();
        members(GardenChess.class, face);
        for (Class<?> one : inside) {
            Bench.due("rule 2: static " + one, Modifier.isStatic(one.getModifiers()), true);
            members(one, face);
        }
        Bench.close("LanguageTest");
    }

    /** The source without comments, and with nothing between the quotes of its texts. */
    private static String bare(String text) {
        return text.replaceAll("(?s)/\\*.*?\\*/", "").replaceAll("//[^\n]*", "").replaceAll("\"[^\"\n]*\"", "\"\"");
    }

    private static void none(String rule, String pattern) {
        Matcher found = Pattern.compile(pattern, Pattern.MULTILINE).matcher(code);
        Bench.due(rule + (found.find() ? " (" + found.group() + ")" : ""), found.reset().find(), false);
    }

    private static void words() {
        none("rule 1: no package", "^package ");
        none("rule 2: no lambda", "->");
        none("rule 2: no method reference", "::");
        none("rule 2: no class without a name", "new [\\w<>]+\\([^()]*\\) \\{");
        none("rule 3: no double", "\\b(double|float|Object|var)\\b");
        none("rule 5: no static block", "static \\{");
        none("rule 6: no such word", "\\b(throw|throws|try|catch|finally|synchronized|assert|volatile|native)\\b");
        none("rule 6: no own toString", "\\b(toString|hashCode|equals)\\(");
        none("rule 13: nothing from outside", "\\b(Random|Thread|File|Runtime|Class|currentTimeMillis|nanoTime|getenv|getProperty)\\b");
    }

    private static void library() {
        none("rule 4: no such import", "^import (?!java\\.util\\.(Arrays|ArrayList|List|Iterator);)");
        none("rule 4: of System arraycopy alone", "\\bSystem\\.(?!arraycopy\\()");
        none("rule 4: of Arrays three alone", "\\bArrays\\.(?!(fill|copyOf|copyOfRange)\\()");
        none("rule 4: none that ends in Exact", "Exact\\(");
        none("rule 4: of Math these alone", "\\bMath\\.(?!(max|min|abs|floorDiv|floorMod)\\()");
        none("rule 4: of Integer these alone", "\\bInteger\\.(?!(bitCount|compare|max|min)\\()");
        none("rule 4: a constant's signs are 1 to 127", "[^\\x01-\\x7f]");
    }

    private static void lengths() {
        String[] lines = code.split("\n");
        int methods = 0;
        for (int i = 0; i < lines.length; i++) {
            if (!lines[i].matches(METHOD_HEAD)) {
                continue;
            }
            methods++;
            String end = " ".repeat(lines[i].indexOf(lines[i].trim())) + "}";
            int last = i;
            while (last < lines.length && !lines[last].equals(end)) {
                last++;
            }
            Bench.due("rule 11: some sixty lines of" + lines[i], last - i < 60, true);
        }
        Bench.due("methods are found", methods > 100, true);
    }

    private static Set<String> publicNames() {
        Set<String> names = new HashSet<>();
        for (Method method : GardenChess.class.getDeclaredMethods()) {
            if (Modifier.isPublic(method.getModifiers())) {
                names.add(method.getName());
            }
        }
        return names;
    }

    private static void members(Class<?> one, Set<String> face) {
        for (Method method : one.getDeclaredMethods()) {
            Bench.due("rule 11: seven parameters of " + method, method.getParameterCount() <= 7, true);
            if (!Modifier.isPublic(method.getModifiers())) {
                Bench.due("rule 1: a public one's name, " + method, face.contains(method.getName()), false);
            }
        }
        int fields = 0;
        for (Field field : one.getDeclaredFields()) {
            if (Modifier.isStatic(field.getModifiers())) {
                Bench.due("rule 5: final " + field, Modifier.isFinal(field.getModifiers()), true);
            } else {
                fields++;
                if (one == GardenChess.class) {
                    Bench.due("rule 1: private " + field, Modifier.isPrivate(field.getModifiers()), true);
                }
            }
        }
        Bench.due("rule 11: some twenty fields of " + one + ", " + fields, fields <= 20, true);
    }
}
