import java.math.BigInteger;
import java.util.Arrays;

/**
 * What the document asks, over BigInteger and by other ways than the class goes: primitive
 * remainders for the divisor, Descartes' rule and halving for the roots.
 */
final class Model {
    static final BigInteger ZERO = BigInteger.ZERO;
    static final BigInteger ONE = BigInteger.ONE;
    static final int MOST_BITS = 186;

    private final BigInteger[][] registers = new BigInteger[8][];
    private int handRegister = -1;
    private int handPower;
    private int handSign;
    private int handCount;

    Model() {
        Arrays.fill(registers, zero());
    }

    static BigInteger[] zero() {
        return new BigInteger[0];
    }

    /** The coefficients without the zeros above the degree. */
    static BigInteger[] trim(BigInteger[] p) {
        int n = p.length;
        while (n > 0 && p[n - 1].signum() == 0) {
            n--;
        }
        return Arrays.copyOf(p, n);
    }

    private static BigInteger[] zeros(int length) {
        BigInteger[] p = new BigInteger[length];
        Arrays.fill(p, ZERO);
        return p;
    }

    private static BigInteger at(BigInteger[] p, int i) {
        return i < p.length ? p[i] : ZERO;
    }

    static BigInteger[] sum(BigInteger[] x, BigInteger[] y, boolean minus) {
        BigInteger[] s = zeros(Math.max(x.length, y.length));
        for (int i = 0; i < s.length; i++) {
            s[i] = minus ? at(x, i).subtract(at(y, i)) : at(x, i).add(at(y, i));
        }
        return trim(s);
    }

    static BigInteger[] product(BigInteger[] x, BigInteger[] y) {
        BigInteger[] p = zeros(Math.max(0, x.length + y.length - 1));
        for (int i = 0; i < x.length; i++) {
            for (int j = 0; j < y.length; j++) {
                p[i + j] = p[i + j].add(x[i].multiply(y[j]));
            }
        }
        return trim(p);
    }

    static BigInteger[] scaled(BigInteger[] x, BigInteger by) {
        return product(x, new BigInteger[] {by});
    }

    static BigInteger[] slope(BigInteger[] x) {
        BigInteger[] p = zeros(Math.max(0, x.length - 1));
        for (int i = 0; i < p.length; i++) {
            p[i] = x[i + 1].multiply(BigInteger.valueOf(i + 1));
        }
        return trim(p);
    }

    /** x with a + b u for the letter: the powers of a + b u, summed. */
    static BigInteger[] put(BigInteger[] x, BigInteger a, BigInteger b) {
        BigInteger[] line = trim(new BigInteger[] {a, b});
        BigInteger[] power = {ONE};
        BigInteger[] result = zero();
        for (BigInteger c : x) {
            result = sum(result, scaled(power, c), false);
            power = product(power, line);
        }
        return result;
    }

    static BigInteger[] pseudoRemainder(BigInteger[] x, BigInteger[] y) {
        if (x.length < y.length) {
            return x;
        }
        BigInteger lead = y[y.length - 1];
        BigInteger[] rest = scaled(x, lead.pow(x.length - y.length + 1));
        while (rest.length >= y.length) {
            BigInteger[] term = zeros(rest.length - y.length + 1);
            term[rest.length - y.length] = rest[rest.length - 1].divide(lead);
            rest = sum(rest, product(term, y), true);
        }
        return rest;
    }

    /** The q of x = q y, or null: y^-1 is not needed, lc^n x = Q y + rest gives q = Q / lc^n. */
    static BigInteger[] quotient(BigInteger[] x, BigInteger[] y) {
        if (y.length == 0 || (x.length > 0 && x.length < y.length)) {
            return null;
        }
        if (x.length == 0) {
            return zero();
        }
        BigInteger lead = y[y.length - 1];
        BigInteger power = lead.pow(x.length - y.length + 1);
        BigInteger[] rest = scaled(x, power);
        BigInteger[] q = zeros(x.length - y.length + 1);
        while (rest.length >= y.length) {
            BigInteger[] term = zeros(rest.length - y.length + 1);
            term[rest.length - y.length] = rest[rest.length - 1].divide(lead);
            q = sum(q, term, false);
            rest = sum(rest, product(term, y), true);
        }
        for (int i = 0; i < q.length; i++) {
            if (q[i].mod(power.abs()).signum() != 0) {
                return null;
            }
            q[i] = q[i].divide(power);
        }
        return rest.length == 0 ? q : null;
    }

    static BigInteger[] primitive(BigInteger[] x) {
        if (x.length == 0) {
            return x;
        }
        BigInteger content = ZERO;
        for (BigInteger c : x) {
            content = content.gcd(c);
        }
        if (x[x.length - 1].signum() < 0) {
            content = content.negate();
        }
        BigInteger[] p = new BigInteger[x.length];
        for (int i = 0; i < p.length; i++) {
            p[i] = x[i].divide(content);
        }
        return p;
    }

    static BigInteger[] divisor(BigInteger[] x, BigInteger[] y) {
        BigInteger[] a = primitive(x);
        BigInteger[] b = primitive(y);
        while (b.length > 0) {
            BigInteger[] rest = primitive(pseudoRemainder(a, b));
            a = b;
            b = rest;
        }
        return a;
    }

    static BigInteger[] once(BigInteger[] x) {
        return primitive(quotient(primitive(x), divisor(x, slope(x))));
    }

    static int signAt(BigInteger[] x, long num, long den) {
        BigInteger value = ZERO;
        for (int i = 0; i < x.length; i++) {
            BigInteger up = BigInteger.valueOf(num).pow(i);
            value = value.add(x[i].multiply(up).multiply(BigInteger.valueOf(den).pow(x.length - 1 - i)));
        }
        return value.signum() * (den < 0 && x.length % 2 == 0 ? -1 : 1);
    }

    /** How many roots a polynomial that has each root once has above 0 and below 1. */
    private static int insideUnit(BigInteger[] x) {
        if (x.length < 2) {
            return 0;
        }
        BigInteger[] turned = new BigInteger[x.length];
        for (int i = 0; i < x.length; i++) {
            turned[i] = x[x.length - 1 - i];
        }
        int changes = changes(put(trim(turned), ONE, ONE));
        if (changes < 2) {
            return changes;
        }
        BigInteger[] left = new BigInteger[x.length];
        for (int i = 0; i < x.length; i++) {
            left[i] = x[i].shiftLeft(x.length - 1 - i);
        }
        BigInteger[] right = put(left, ONE, ONE);
        int middle = right[0].signum() == 0 ? 1 : 0;
        return insideUnit(left) + middle + insideUnit(right);
    }

    private static int changes(BigInteger[] x) {
        int count = 0;
        int before = 0;
        for (BigInteger c : x) {
            if (c.signum() * before < 0) {
                count++;
            }
            before = c.signum() == 0 ? before : c.signum();
        }
        return count;
    }

    /** Roots above low and below high of a polynomial that has each root once. */
    private static int between(BigInteger[] x, BigInteger low, BigInteger high) {
        if (low.compareTo(high) >= 0) {
            return 0;
        }
        return insideUnit(put(x, low, high.subtract(low)));
    }

    private static boolean isRoot(BigInteger[] x, BigInteger point) {
        BigInteger[] moved = put(x, point, ONE);
        return moved.length > 0 && moved[0].signum() == 0;
    }

    /** The roots from low on, below high. */
    private static int from(BigInteger[] x, BigInteger low, BigInteger high) {
        return between(x, low, high) + (isRoot(x, low) ? 1 : 0);
    }

    /** All roots lie between this and its negative. */
    private static BigInteger bound(BigInteger[] x) {
        BigInteger most = ONE;
        for (BigInteger c : x) {
            most = most.max(c.abs());
        }
        return most.divide(x[x.length - 1].abs()).add(BigInteger.TWO);
    }

    static int roots(BigInteger[] x, BigInteger low, BigInteger high) {
        if (low.compareTo(high) >= 0) {
            return 0;
        }
        BigInteger[] simple = once(x);
        return between(simple, low, high) + (isRoot(simple, high) ? 1 : 0);
    }

    static int allRoots(BigInteger[] x) {
        BigInteger far = bound(x);
        return roots(x, far.negate(), far);
    }

    static long place(BigInteger[] x, int k) {
        if (k < 0 || k >= allRoots(x)) {
            return Long.MIN_VALUE;
        }
        BigInteger[] simple = once(x);
        BigInteger low = BigInteger.valueOf(Integer.MIN_VALUE);
        BigInteger high = BigInteger.valueOf(Integer.MAX_VALUE + 1L);
        int below = between(simple, bound(simple).negate(), low);
        if (below > k || below + from(simple, low, high) <= k) {
            return Long.MIN_VALUE;
        }
        while (high.subtract(low).compareTo(ONE) > 0) {
            BigInteger middle = low.add(high).shiftRight(1);
            int left = from(simple, low, middle);
            if (below + left <= k) {
                low = middle;
                below += left;
            } else {
                high = middle;
            }
        }
        return low.intValueExact() == Integer.MIN_VALUE ? Long.MIN_VALUE : low.longValueExact();
    }

    // the document's calls

    private static boolean has(int... rs) {
        for (int r : rs) {
            if (r < 0 || r > 7) {
                return false;
            }
        }
        return true;
    }

    BigInteger[] get(int r) {
        return registers[r];
    }

    boolean coefficient(int r, int i, int sign) {
        handRegister = -1;
        if (!has(r) || i < 0 || i > 8) {
            return false;
        }
        handRegister = r;
        handPower = i;
        handSign = sign < 0 ? -1 : 1;
        handCount = 0;
        set(r, i, ZERO);
        return true;
    }

    private void set(int r, int i, BigInteger value) {
        BigInteger[] wide = zeros(9);
        System.arraycopy(registers[r], 0, wide, 0, registers[r].length);
        wide[i] = value;
        registers[r] = trim(wide);
    }

    boolean word(int w) {
        if (handRegister < 0 || w < 0 || handCount == 6) {
            return false;
        }
        BigInteger more = BigInteger.valueOf(w).shiftLeft(31 * handCount);
        BigInteger old = at(registers[handRegister], handPower);
        set(handRegister, handPower, handSign < 0 ? old.subtract(more) : old.add(more));
        handCount++;
        return true;
    }

    private int deliver(int d, BigInteger[] result) {
        if (result == null) {
            return 2;
        }
        if (result.length > 9) {
            return 3;
        }
        for (BigInteger c : result) {
            if (c.abs().bitLength() > MOST_BITS) {
                return 3;
            }
        }
        registers[d] = result;
        if (handRegister == d) {
            handRegister = -1;
        }
        return 0;
    }

    int add(int d, int x, int y, boolean minus) {
        return has(d, x, y) ? deliver(d, sum(registers[x], registers[y], minus)) : 1;
    }

    int multiply(int d, int x, int y) {
        return has(d, x, y) ? deliver(d, product(registers[x], registers[y])) : 1;
    }

    int derive(int d, int x) {
        return has(d, x) ? deliver(d, slope(registers[x])) : 1;
    }

    int shift(int d, int x, int c) {
        return has(d, x) ? deliver(d, put(registers[x], BigInteger.valueOf(c), ONE)) : 1;
    }

    int remainder(int d, int x, int y) {
        if (!has(d, x, y)) {
            return 1;
        }
        return deliver(d, registers[y].length == 0 ? null : pseudoRemainder(registers[x], registers[y]));
    }

    int quotient(int d, int x, int y) {
        return has(d, x, y) ? deliver(d, quotient(registers[x], registers[y])) : 1;
    }

    int gcd(int d, int x, int y) {
        return has(d, x, y) ? deliver(d, divisor(registers[x], registers[y])) : 1;
    }

    int once(int d, int x) {
        if (!has(d, x)) {
            return 1;
        }
        return deliver(d, registers[x].length == 0 ? null : once(registers[x]));
    }

    int sign(int x, int num, int den) {
        return has(x) && den != 0 ? signAt(registers[x], num, den) : 2;
    }

    int roots(int x, int low, int high) {
        if (!has(x) || registers[x].length == 0 || low > high) {
            return -1;
        }
        return roots(registers[x], BigInteger.valueOf(low), BigInteger.valueOf(high));
    }

    int allRoots(int x) {
        return has(x) && registers[x].length > 0 ? allRoots(registers[x]) : -1;
    }

    long place(int x, int k) {
        return has(x) && registers[x].length > 0 ? place(registers[x], k) : Long.MIN_VALUE;
    }

    int degree(int x) {
        return has(x) ? registers[x].length - 1 : -2;
    }

    int signOf(int x, int i) {
        return has(x) && i >= 0 && i <= 8 ? at(registers[x], i).signum() : 2;
    }

    int words(int x, int i) {
        return has(x) && i >= 0 && i <= 8 ? wordCount(at(registers[x], i)) : -1;
    }

    private static int wordCount(BigInteger c) {
        return (c.abs().bitLength() + 30) / 31;
    }

    int wordOf(int x, int i, int j) {
        if (j < 0 || j >= words(x, i)) {
            return -1;
        }
        return at(registers[x], i).abs().shiftRight(31 * j).intValue() & 0x7fffffff;
    }

    boolean same(int x, int y) {
        return has(x, y) && Arrays.equals(registers[x], registers[y]);
    }
}
