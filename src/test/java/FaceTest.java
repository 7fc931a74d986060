import java.lang.reflect.Constructor;
import java.lang.reflect.Field;
import java.lang.reflect.Method;
import java.lang.reflect.Modifier;
import java.nio.file.Files;
import java.nio.file.Path;
import java.util.Set;
import java.util.TreeSet;
import java.util.regex.Matcher;
import java.util.regex.Pattern;

/** The public face is the document's, whole and no wider; the source keeps off what is ruled out. */
public final class FaceTest {
    private static final String[] METHODS = {
        "public boolean BigPolys.coefficient(int,int,int)",
        "public boolean BigPolys.word(int)",
        "public int BigPolys.add(int,int,int,boolean)",
        "public int BigPolys.multiply(int,int,int)",
        "public int BigPolys.derive(int,int)",
        "public int BigPolys.shift(int,int,int)",
        "public int BigPolys.remainder(int,int,int)",
        "public int BigPolys.quotient(int,int,int)",
        "public int BigPolys.gcd(int,int,int)",
        "public int BigPolys.once(int,int)",
        "public int BigPolys.sign(int,int,int)",
        "public int BigPolys.roots(int,int,int)",
        "public int BigPolys.allRoots(int)",
        "public long BigPolys.place(int,int)",
        "public int BigPolys.degree(int)",
        "public int BigPolys.signOf(int,int)",
        "public int BigPolys.words(int,int)",
        "public int BigPolys.wordOf(int,int,int)",
        "public boolean BigPolys.same(int,int)",
    };
    private static final String[] RULED_OUT = {
        "throw", "catch", "->", "::", "synchronized", "assert", "BigInteger", "Random", "Exact", "static {",
    };
    private static final Pattern LIBRARY = Pattern.compile("\\b(Arrays|Integer|Long|Math|String|System)\\.(\\w+)");
    private static final Set<String> LIBRARY_USED = Set.of(
        "Arrays.fill", "Integer.MAX_VALUE", "Integer.MIN_VALUE", "Integer.numberOfLeadingZeros",
        "Long.MIN_VALUE", "Math.abs", "Math.max", "Math.min", "System.arraycopy");
    private static final int MOST_PARAMETERS = 7;

    public static void main(String[] args) throws Exception {
        Check check = new Check();
        check.due("final and public", Modifier.PUBLIC | Modifier.FINAL, BigPolys.class.getModifiers());
        check.due("NONE", -1, BigPolys.NONE);
        Set<String> methods = new TreeSet<>();
        Set<String> names = new TreeSet<>();
        for (Method method : BigPolys.class.getDeclaredMethods()) {
            if (!Modifier.isPrivate(method.getModifiers())) {
                methods.add(method.toString());
                names.add(method.getName());
            }
        }
        check.text("methods", new TreeSet<>(Set.of(METHODS)).toString(), methods.toString());
        for (Class<?> inner : BigPolys.class.getDeclaredClasses()) {
            check.due(inner + " is static", 1, Modifier.isStatic(inner.getModifiers()) ? 1 : 0);
            noneNamedLikeTheFace(check, inner, names);
        }
        for (Method method : BigPolys.class.getDeclaredMethods()) {
            boolean hidden = Modifier.isPrivate(method.getModifiers());
            check.due(method + " bears a public name", 0, hidden && names.contains(method.getName()) ? 1 : 0);
        }
        StringBuilder fields = new StringBuilder();
        for (Field field : BigPolys.class.getDeclaredFields()) {
            if (!Modifier.isPrivate(field.getModifiers())) {
                fields.append(field);
            }
        }
        check.text("fields", "public static final int BigPolys.NONE", fields.toString());
        Constructor<?>[] made = BigPolys.class.getDeclaredConstructors();
        check.due("constructors", 1, made.length);
        check.text("constructor", "public BigPolys()", made[0].toString());
        source(check);
        check.end();
    }

    private static void noneNamedLikeTheFace(Check check, Class<?> inner, Set<String> names) {
        for (Method method : inner.getDeclaredMethods()) {
            check.due(method + " bears a public name", 0, names.contains(method.getName()) ? 1 : 0);
            check.due(method + " takes few parameters", true, method.getParameterCount() <= MOST_PARAMETERS);
        }
    }

    private static void source(Check check) throws Exception {
        String text = Files.readString(Path.of("src/main/java/BigPolys.java"));
        for (String word : RULED_OUT) {
            check.due("the source holds " + word, -1, text.indexOf(word));
        }
        Matcher use = LIBRARY.matcher(text);
        while (use.find()) {
            check.due(use.group() + " is used", true, LIBRARY_USED.contains(use.group()));
        }
    }
}
