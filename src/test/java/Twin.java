import java.math.BigInteger;
import java.util.Arrays;

/** The class and the model side by side: each call goes to both, and their answers must agree. */
final class Twin {
    private final Check check;
    private final String name;
    private final BigPolys real = new BigPolys();
    final Model model = new Model();

    Twin(Check check, String name) {
        this.check = check;
        this.name = name;
    }

    private int agree(String call, int want, int got, int... args) {
        if (want != got) {
            check.due(name + ": " + call + Arrays.toString(args), want, got);
        } else {
            check.due(call, want, got);
        }
        return got;
    }

    boolean coefficient(int r, int i, int sign) {
        return agree("coefficient", model.coefficient(r, i, sign) ? 1 : 0, real.coefficient(r, i, sign) ? 1 : 0, r, i, sign) == 1;
    }

    boolean word(int w) {
        return agree("word", model.word(w) ? 1 : 0, real.word(w) ? 1 : 0, w) == 1;
    }

    int add(int d, int x, int y, boolean minus) {
        return agree("add", model.add(d, x, y, minus), real.add(d, x, y, minus), d, x, y, minus ? 1 : 0);
    }

    int multiply(int d, int x, int y) {
        return agree("multiply", model.multiply(d, x, y), real.multiply(d, x, y), d, x, y);
    }

    int derive(int d, int x) {
        return agree("derive", model.derive(d, x), real.derive(d, x), d, x);
    }

    int shift(int d, int x, int c) {
        return agree("shift", model.shift(d, x, c), real.shift(d, x, c), d, x, c);
    }

    int remainder(int d, int x, int y) {
        return agree("remainder", model.remainder(d, x, y), real.remainder(d, x, y), d, x, y);
    }

    int quotient(int d, int x, int y) {
        return agree("quotient", model.quotient(d, x, y), real.quotient(d, x, y), d, x, y);
    }

    int gcd(int d, int x, int y) {
        return agree("gcd", model.gcd(d, x, y), real.gcd(d, x, y), d, x, y);
    }

    int once(int d, int x) {
        return agree("once", model.once(d, x), real.once(d, x), d, x);
    }

    int sign(int x, int num, int den) {
        return agree("sign", model.sign(x, num, den), real.sign(x, num, den), x, num, den);
    }

    int roots(int x, int low, int high) {
        return agree("roots", model.roots(x, low, high), real.roots(x, low, high), x, low, high);
    }

    int allRoots(int x) {
        return agree("allRoots", model.allRoots(x), real.allRoots(x), x);
    }

    void place(int x, int k) {
        check.due(name + ": place", model.place(x, k), real.place(x, k));
    }

    int degree(int x) {
        return agree("degree", model.degree(x), real.degree(x), x);
    }

    int signOf(int x, int i) {
        return agree("signOf", model.signOf(x, i), real.signOf(x, i), x, i);
    }

    int words(int x, int i) {
        return agree("words", model.words(x, i), real.words(x, i), x, i);
    }

    int wordOf(int x, int i, int j) {
        return agree("wordOf", model.wordOf(x, i, j), real.wordOf(x, i, j), x, i, j);
    }

    boolean same(int x, int y) {
        return agree("same", model.same(x, y) ? 1 : 0, real.same(x, y) ? 1 : 0, x, y) == 1;
    }

    /** Puts a polynomial into a register, word by word, all nine coefficients. */
    void put(int r, BigInteger[] p) {
        for (int i = 0; i <= 8; i++) {
            BigInteger c = i < p.length ? p[i] : BigInteger.ZERO;
            coefficient(r, i, c.signum());
            for (int j = 0; 31 * j < c.abs().bitLength(); j++) {
                word(c.abs().shiftRight(31 * j).intValue() & 0x7fffffff);
            }
        }
    }

    /** Reads all of a register back. */
    void read(int r) {
        degree(r);
        for (int i = 0; i <= 8; i++) {
            signOf(r, i);
            int size = words(r, i);
            for (int j = 0; j < size; j++) {
                wordOf(r, i, j);
            }
        }
    }
}
