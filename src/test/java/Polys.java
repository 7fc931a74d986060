import java.math.BigInteger;

/** Whole polynomials for tests: made from numbers, put into a register, read out of it. */
final class Polys {
    static final int LEAST = Integer.MIN_VALUE;
    static final int MOST = Integer.MAX_VALUE;
    static final long NOWHERE = Long.MIN_VALUE;

    /** The largest coefficient, and the least that has no room. */
    static final BigInteger FULL = BigInteger.ONE.shiftLeft(186).subtract(BigInteger.ONE);
    static final BigInteger OVER = BigInteger.ONE.shiftLeft(186);

    private Polys() {
    }

    /** The lowest power's coefficient first. */
    static BigInteger[] poly(long... low) {
        BigInteger[] p = new BigInteger[low.length];
        for (int i = 0; i < p.length; i++) {
            p[i] = BigInteger.valueOf(low[i]);
        }
        return p;
    }

    /** c t^power. */
    static BigInteger[] term(BigInteger c, int power) {
        BigInteger[] p = poly(new long[power + 1]);
        p[power] = c;
        return p;
    }

    static BigInteger two(int power) {
        return BigInteger.ONE.shiftLeft(power);
    }

    /** Puts a polynomial that has room into a register, whatever that held. */
    static void put(BigPolys p, int r, BigInteger... low) {
        int end = Math.max(low.length - 1, p.degree(r));
        for (int i = 0; i <= end; i++) {
            BigInteger c = i < low.length ? low[i] : BigInteger.ZERO;
            taken(p.coefficient(r, i, c.signum()));
            for (int j = 0; 31 * j < c.abs().bitLength(); j++) {
                taken(p.word(c.abs().shiftRight(31 * j).intValue() & MOST));
            }
        }
    }

    /** A test that puts what has no room is wrong itself. */
    private static void taken(boolean answer) {
        if (!answer) {
            throw new IllegalStateException("a polynomial could not be put");
        }
    }

    static void put(BigPolys p, int r, long... low) {
        put(p, r, poly(low));
    }

    static String read(BigPolys p, int r) {
        StringBuilder text = new StringBuilder();
        for (int i = 0; i <= p.degree(r); i++) {
            BigInteger c = BigInteger.ZERO;
            for (int j = p.words(r, i) - 1; j >= 0; j--) {
                c = c.shiftLeft(31).add(BigInteger.valueOf(p.wordOf(r, i, j)));
            }
            text.append(p.signOf(r, i) < 0 ? c.negate() : c).append(' ');
        }
        return text.toString().trim();
    }

    static String text(BigInteger... low) {
        StringBuilder text = new StringBuilder();
        for (BigInteger c : low) {
            text.append(c).append(' ');
        }
        return text.toString().trim();
    }

    static String text(long... low) {
        return text(poly(low));
    }
}
