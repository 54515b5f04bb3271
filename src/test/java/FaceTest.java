import java.lang.reflect.Constructor;
import java.lang.reflect.Field;
import java.lang.reflect.Method;
import java.lang.reflect.Modifier;
import java.nio.file.Files;
import java.nio.file.Path;
import java.util.Set;
import java.util.TreeSet;
import java.util.regex.Matcher;
import java.util.regex.Pattern;

/** The public face is the document's and no more, and the source keeps to what of LANGUAGE.md a look can tell. */
public final class FaceTest {
    private static final Due DUE = new Due();
    private static final Set<String> FACE = Set.of(
        "port", "set int int int int", "about int int int", "tax int int", "shut int boolean", "way int int int",
        "ofPort int int", "tick int", "event int int int int", "ship int int int", "buy int int int",
        "sell int int int", "go int int", "ofShip int int", "fuel int", "told int", "ring int int", "plan int int",
        "planned int int", "starves int int int");
    private static final Set<String> CONSTANTS = Set.of("UNKNOWN", "OUTSIDE", "STATE", "FULL", "NO", "NONE", "LOST");

    private static void methods() {
        Set<String> seen = new TreeSet<>();
        Set<String> names = new TreeSet<>();
        for (Method m : StarTrade.class.getDeclaredMethods()) {
            if (Modifier.isPrivate(m.getModifiers())) {
                continue;
            }
            StringBuilder sign = new StringBuilder(m.getName());
            for (Class<?> type : m.getParameterTypes()) {
                sign.append(' ').append(type.getName());
            }
            seen.add(sign.toString());
            names.add(m.getName());
            DUE.dueTrue(sign + " is public and of int", Modifier.isPublic(m.getModifiers())
                && !Modifier.isStatic(m.getModifiers()) && m.getReturnType() == int.class);
        }
        DUE.dueTrue("methods " + seen, seen.equals(FACE));
        ownNames(StarTrade.class, names);
        for (Class<?> inside : StarTrade.class.getDeclaredClasses()) {
            ownNames(inside, names);
        }
    }

    private static void ownNames(Class<?> type, Set<String> names) {
        for (Method m : type.getDeclaredMethods()) {
            boolean face = type == StarTrade.class && Modifier.isPublic(m.getModifiers());
            DUE.dueTrue(type + " " + m.getName() + " bears no name of the face", face || !names.contains(m.getName()));
            DUE.dueTrue(type + " " + m.getName() + " takes at most seven", m.getParameterCount() <= 7);
        }
    }

    private static void fields() {
        Set<String> seen = new TreeSet<>();
        for (Field f : StarTrade.class.getDeclaredFields()) {
            if (!Modifier.isPrivate(f.getModifiers())) {
                seen.add(f.getName());
                DUE.dueTrue(f + " is a public constant", Modifier.isPublic(f.getModifiers())
                    && Modifier.isStatic(f.getModifiers()) && Modifier.isFinal(f.getModifiers()) && f.getType() == int.class);
            }
        }
        fieldsOf(StarTrade.class);
        DUE.dueTrue("constants " + seen, seen.equals(CONSTANTS));
    }

    private static void classes() {
        int modifiers = StarTrade.class.getModifiers();
        DUE.dueTrue("the class is public and final", Modifier.isPublic(modifiers) && Modifier.isFinal(modifiers));
        Constructor<?>[] made = StarTrade.class.getDeclaredConstructors();
        DUE.dueTrue("one public constructor", made.length == 1 && Modifier.isPublic(made[0].getModifiers())
            && made[0].getParameterCount() == 0);
        Class<?>[] inside = StarTrade.class.getDeclaredClasses();
        DUE.dueTrue("at most twelve classes", inside.length + 1 <= 12);
        for (Class<?> c : inside) {
            int m = c.getModifiers();
            DUE.dueTrue(c + " is static and not public", Modifier.isStatic(m) && !Modifier.isPublic(m) && !Modifier.isProtected(m));
            fieldsOf(c);
        }
    }

    private static void source() throws Exception {
        String text = Files.readString(Path.of("src/main/java/StarTrade.java"));
        String code = text.replaceAll("(?s)/\\*.*?\\*/", " ").replaceAll("//[^\n]*", " ");
        for (String word : new String[] {"throw", "throws", "try", "catch", "synchronized", "assert", "import", "package",
            "instanceof", "double", "float", "String", "Object", "Random", "Thread"}) {
            DUE.dueTrue("without " + word, !code.matches("(?s).*\\b" + word + "\\b.*"));
        }
        DUE.dueTrue("without -> and ::", !code.contains("->") && !code.contains("::"));
        Matcher library = Pattern.compile("\\b(Math|System|Arrays|Integer|Long|java)\\b[^;(]*").matcher(code);
        while (library.find()) {
            DUE.dueTrue("of the library: " + library.group(),
                Set.of("Math.max", "Math.min", "System.arraycopy").contains(library.group()));
        }
        lengths(text);
    }

    /** A method's lines, from the one that opens it to the brace that closes it at the same depth. */
    private static void lengths(String text) {
        String[] lines = text.split("\n");
        for (int i = 0; i < lines.length; i++) {
            if (!lines[i].matches("( {4}| {8})[\\w\\[\\] ]+\\(.*\\) \\{")) {
                continue;
            }
            String close = lines[i].replaceAll("\\S.*", "") + "}";
            int end = i;
            while (end < lines.length && !lines[end].equals(close)) {
                end++;
            }
            DUE.dueTrue("some sixty lines at most: " + lines[i], end - i < 60);
        }
    }

    private static void fieldsOf(Class<?> type) {
        int own = 0;
        for (Field f : type.getDeclaredFields()) {
            boolean fixed = Modifier.isStatic(f.getModifiers());
            own += fixed ? 0 : 1;
            DUE.dueTrue(f + " is final if static", !fixed || Modifier.isFinal(f.getModifiers()));
        }
        DUE.dueTrue(type + " has some twenty fields at most", own <= 20);
    }

    public static void main(String[] args) throws Exception {
        methods();
        fields();
        classes();
        source();
        DUE.end();
    }
}
