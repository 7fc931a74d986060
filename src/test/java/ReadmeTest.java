import java.lang.reflect.Method;
import java.lang.reflect.Modifier;
import java.nio.file.Files;
import java.nio.file.Path;
import java.util.ArrayDeque;
import java.util.List;
import java.util.Queue;

/** README.md's example answers what it says it does, and its table leaves no call out. */
public final class ReadmeTest {
    private static final Check check = new Check();
    private static final Queue<String> example = new ArrayDeque<>();

    public static void main(String[] args) throws Exception {
        List<String> lines = Files.readAllLines(Path.of("README.md"));
        int first = lines.indexOf("```java") + 1;
        int end = first + lines.subList(first, lines.size()).indexOf("```");
        example.addAll(lines.subList(first, end));
        example();
        check.due("lines of the example that are not run", 0, example.size());
        everyCallIsTold(String.join("\n", lines));
        check.end();
    }

    private static void example() {
        check.text("the first line", "BigPolys p = new BigPolys();", example.poll());
        BigPolys p = new BigPolys();
        line("p.coefficient(0, 2, 1)", p.coefficient(0, 2, 1));
        line("p.word(1)", p.word(1));
        line("p.coefficient(0, 0, -1)", p.coefficient(0, 0, -1));
        line("p.word(2)", p.word(2));
        line("p.allRoots(0)", p.allRoots(0));
        line("p.roots(0, 0, 5)", p.roots(0, 0, 5));
        line("p.place(0, 0)", p.place(0, 0));
        line("p.sign(0, 3, 2)", p.sign(0, 3, 2));
        line("p.multiply(1, 0, 0)", p.multiply(1, 0, 0));
        check.text("register 1", Polys.text(Polys.poly(4, 0, -4, 0, 1)), Polys.read(p, 1));
        line("p.wordOf(1, 0, 0)", p.wordOf(1, 0, 0));
        line("p.signOf(1, 2)", p.signOf(1, 2));
        line("p.once(2, 1)", p.once(2, 1));
        check.text("register 2", Polys.text(Polys.poly(-2, 0, 1)), Polys.read(p, 2));
        line("p.same(0, 2)", p.same(0, 2));
        line("p.multiply(1, 1, 1)", p.multiply(1, 1, 1));
        line("p.multiply(1, 1, 0)", p.multiply(1, 1, 0));
        line("p.degree(1)", p.degree(1));
        line("p.quotient(3, 0, 1)", p.quotient(3, 0, 1));
        line("p.add(8, 0, 0, false)", p.add(8, 0, 0, false));
    }

    /** The example's next line is this call, with this answer told behind it. */
    private static void line(String call, Object answer) {
        String[] halves = (example.isEmpty() ? "" : example.poll()).split(" *// ", 2);
        check.text("the next call", call + ";", halves[0]);
        String told = halves.length < 2 ? "nothing" : halves[1].split("[:,]", 2)[0];
        check.text(call, told, answer.toString());
    }

    private static void everyCallIsTold(String readme) {
        for (Method method : BigPolys.class.getDeclaredMethods()) {
            if (Modifier.isPublic(method.getModifiers())) {
                String row = "| `" + method.getName() + "(";
                check.due(method.getName() + " has a row", true, readme.contains(row));
            }
        }
    }
}
