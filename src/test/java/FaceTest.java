import java.lang.reflect.Constructor;
import java.lang.reflect.Field;
import java.lang.reflect.Method;
import java.lang.reflect.Modifier;
import java.nio.file.Files;
import java.nio.file.Path;
import java.util.HashSet;
import java.util.Set;
import java.util.TreeSet;
import java.util.regex.Pattern;

/** The public face (as the document writes it), and the rules of LANGUAGE.md that a program can look at. */
public final class FaceTest {
    private static final String[] METHODS = {
        "pit 3", "dug 2", "shop 4", "shelf 3", "sells 2", "man 3", "is 2", "be 3", "known 3", "hear 2", "rule 2", "run 1",
        "draw 3", "strike 2", "fine 3", "stop 3", "let 1", "sell 3", "melt 1", "told 2", "as 2", "wrong 1", "give 1",
        "worth 2", "prove 4", "bound 3", "beside 2", "feed 3", "trim 1", "text 1", "of 2", "why 1", "rules 4", "book 3",
        "note 3", "read 2", "copy 5", "all 2", "end 4", "round 0", "way 1", "would 2", "breach 3", "seen 1", "at 2",
        "last 2", "least 0", "choice 3", "plan 3", "planned 3", "tell 1", "check 3", "keep 0", "back 0", "count 1",
    };
    private static final String[] CONSTANTS = {
        "BAD -1000000001", "NO -1000000002", "FULL -1000000003", "SPENT -1000000004", "NONE -1000000005",
        "NOTHING -1000000011", "KIND -1000000012", "INDEX -1000000013", "SIZE -1000000014", "BLANK -32768",
    };
    private static final String[] RULED_OUT = {
        "\\bthrow\\b", "\\btry\\b", "\\bcatch\\b", "\\bsynchronized\\b", "\\bassert\\b", "->", "::", "\\bimport\\b",
        "\\bpackage\\b", "Exact\\b", "System\\.(?!arraycopy)", "\\bThread\\b", "\\bObject\\b", "\\bstatic \\{",
    };

    public static void main(String[] args) throws Exception {
        Set<String> names = methods();
        constants();
        nested(names);
        source();
        Due.end();
    }

    private static Set<String> methods() {
        Set<String> want = new TreeSet<>(Set.of(METHODS));
        Set<String> got = new TreeSet<>();
        Set<String> names = new HashSet<>();
        for (Method m : TokenValley.class.getDeclaredMethods()) {
            if (Modifier.isPrivate(m.getModifiers())) continue;
            boolean plain = Modifier.isPublic(m.getModifiers()) && !Modifier.isStatic(m.getModifiers());
            got.add(m.getName() + " " + m.getParameterCount() + (plain ? "" : " not public"));
            names.add(m.getName());
            Due.due(m.getName() + " gives an int", m.getReturnType() == int.class ? 1 : 0, 1);
            for (Class<?> p : m.getParameterTypes()) Due.due(m.getName() + " takes ints", p == int.class ? 1 : 0, 1);
        }
        if (!got.equals(want)) System.out.println("face is " + got + ", due is " + want);
        Due.due("the methods of the face", got.equals(want) ? 1 : 0, 1);
        Due.due("final", Modifier.isFinal(TokenValley.class.getModifiers()) ? 1 : 0, 1);
        Constructor<?>[] made = TokenValley.class.getDeclaredConstructors();
        Due.due("one constructor", made.length, 1);
        Due.due("public", Modifier.isPublic(made[0].getModifiers()) ? 1 : 0, 1);
        Due.due("without parameters", made[0].getParameterCount(), 0);
        for (Method m : TokenValley.class.getDeclaredMethods()) {
            boolean hidden = Modifier.isPrivate(m.getModifiers()) && names.contains(m.getName());
            Due.due("private " + m.getName() + " bears a public name", hidden ? 1 : 0, 0);
        }
        return names;
    }

    private static void constants() throws Exception {
        Set<String> want = new TreeSet<>(Set.of(CONSTANTS));
        Set<String> got = new TreeSet<>();
        for (Field f : TokenValley.class.getDeclaredFields()) {
            if (Modifier.isPrivate(f.getModifiers())) continue;
            boolean constant = f.getModifiers() == (Modifier.PUBLIC | Modifier.STATIC | Modifier.FINAL);
            got.add(constant && f.getType() == int.class ? f.getName() + " " + f.getInt(null) : f.getName());
        }
        Due.due("the constants of the face", got.equals(want) ? 1 : 0, 1);
    }

    private static void nested(Set<String> names) {
        Class<?>[] inside = TokenValley.class.getDeclaredClasses();
        Due.due("some twelve classes", inside.length <= 12 ? 1 : 0, 1);
        for (Class<?> c : inside) {
            Due.due(c.getName() + " is static", Modifier.isStatic(c.getModifiers()) ? 1 : 0, 1);
            int fields = 0;
            for (Field f : c.getDeclaredFields()) {
                if (!Modifier.isStatic(f.getModifiers())) fields++;
                else Due.due(c.getName() + "." + f.getName() + " is final", Modifier.isFinal(f.getModifiers()) ? 1 : 0, 1);
            }
            Due.due(c.getName() + " has some twenty fields", fields <= 20 ? 1 : 0, 1);
            for (Method m : c.getDeclaredMethods()) {
                Due.due(c.getName() + "." + m.getName() + " bears a public name", names.contains(m.getName()) ? 1 : 0, 0);
                Due.due(m.getName() + " takes seven at most", m.getParameterCount() <= 7 ? 1 : 0, 1);
            }
        }
    }

    private static void source() throws Exception {
        String source = Files.readString(Path.of("src/main/java/TokenValley.java"));
        String code = source.replaceAll("(?s)/\\*.*?\\*/", "").replaceAll("//[^\n]*", "").replaceAll("\"[^\"\n]*\"", "\"\"");
        for (String s : RULED_OUT) Due.due("found in the source: " + s, Pattern.compile(s).matcher(code).find() ? 1 : 0, 0);
        Due.due("signs of the source", source.chars().allMatch(c -> c == '\n' || c >= 32 && c < 127) ? 1 : 0, 1);
    }
}
