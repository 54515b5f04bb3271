import java.lang.reflect.Method;
import java.lang.reflect.Modifier;
import java.nio.file.Files;
import java.nio.file.Path;
import java.util.ArrayList;
import java.util.List;

/** README.md's example answers as its comments say, and its table names every call with all that it takes. */
public final class ReadmeTest {
    private static final Due DUE = new Due();

    /** The example's lines that have an answer, each as "code // number". */
    private static List<String> linesWithAnswers(String readme) {
        List<String> lines = new ArrayList<>();
        int from = readme.indexOf("```java");
        int to = readme.indexOf("```", from + 3);
        for (String line : readme.substring(from, to).split("\n")) {
            if (line.contains("//")) {
                lines.add(line.replaceAll("\\s+// (-?\\d+).*", " // $1"));
            }
        }
        return lines;
    }

    private static List<String> answered() {
        List<String> lines = new ArrayList<>();
        StarTrade x = new StarTrade();
        int a = x.port();
        lines.add("int a = x.port(); // " + a);
        int b = x.port();
        lines.add("int b = x.port(); // " + b);
        lines.add("x.way(a, b, 2); // " + x.way(a, b, 2));
        lines.add("x.set(a, 0, 0, 20); // " + x.set(a, 0, 0, 20));
        lines.add("x.about(a, 0, 5); // " + x.about(a, 0, 5));
        lines.add("x.about(b, 0, 5); // " + x.about(b, 0, 5));
        int s = x.ship(a, 5, 60);
        lines.add("int s = x.ship(a, 5, 60); // " + s);
        lines.add("x.ring(5, 0); // " + x.ring(5, 0));
        lines.add("x.ring(5, 1); // " + x.ring(5, 1));
        lines.add("x.plan(s, 1); // " + x.plan(s, 1));
        lines.add("x.planned(0, 0); // " + x.planned(0, 0));
        lines.add("x.planned(0, 1); // " + x.planned(0, 1));
        lines.add("x.buy(s, 0, 5); // " + x.buy(s, 0, 5));
        lines.add("x.go(s, b); // " + x.go(s, b));
        lines.add("x.sell(s, 0, 5); // " + x.sell(s, 0, 5));
        lines.add("x.ofShip(s, 2); // " + x.ofShip(s, 2));
        lines.add("x.set(b, 0, 2, 3); // " + x.set(b, 0, 2, 3));
        lines.add("x.starves(b, 0, 10); // " + x.starves(b, 0, 10));
        lines.add("x.shut(b, true); // " + x.shut(b, true));
        lines.add("x.plan(s, 1); // " + x.plan(s, 1));
        return lines;
    }

    private static void example(String readme) {
        List<String> told = linesWithAnswers(readme);
        List<String> answered = answered();
        DUE.due("lines of the example", told.size(), answered.size());
        for (int i = 0; i < Math.min(told.size(), answered.size()); i++) {
            DUE.dueTrue("README.md tells: " + told.get(i) + "; it is: " + answered.get(i), told.get(i).equals(answered.get(i)));
        }
    }

    private static void table(String readme) {
        for (Method m : StarTrade.class.getDeclaredMethods()) {
            if (Modifier.isPublic(m.getModifiers())) {
                String commas = "\\w+" + ", \\w+".repeat(Math.max(0, m.getParameterCount() - 1));
                String inside = m.getParameterCount() == 0 ? "" : commas;
                DUE.dueTrue("a row for " + m, readme.matches("(?s).*\n\\| `" + m.getName() + "\\(" + inside + "\\)` \\|.*"));
            }
        }
    }

    public static void main(String[] args) throws Exception {
        String readme = Files.readString(Path.of("README.md"));
        example(readme);
        table(readme);
        DUE.end();
    }
}
