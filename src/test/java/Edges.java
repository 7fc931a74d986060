import java.math.BigInteger;

/** What the tests of the document's sentences share. */
abstract class Edges {
    static final int LEAST = Polys.LEAST;
    static final int MOST = Polys.MOST;
    static final long NOWHERE = Polys.NOWHERE;
    static final BigInteger FULL = Polys.FULL;
    static final BigInteger OVER = Polys.OVER;
    static final BigInteger ZERO = BigInteger.ZERO;
    static final BigInteger ONE = BigInteger.ONE;
    static final BigInteger[] NOTHING = new BigInteger[0];

    /** Numbers that name no register, and those that name no coefficient. */
    static final int[] NO_REGISTERS = {-1, 8, 9, LEAST, MOST, LEAST + 1, 256};
    static final int[] NO_POWERS = {-1, 9, 10, LEAST, MOST, LEAST + 8, 256};

    final Check check;
    final Sentences sentences;

    Edges(Check check, Sentences sentences) {
        this.check = check;
        this.sentences = sentences;
    }

    abstract void run();

    static BigInteger[] poly(long... low) {
        return Polys.poly(low);
    }

    static BigInteger[] poly(BigInteger... low) {
        return low;
    }

    /** A new object with two polynomials in registers 0 and 1. */
    static BigPolys with(BigInteger[] x, BigInteger[] y) {
        BigPolys p = with(x);
        Polys.put(p, 1, y);
        return p;
    }

    /** A new object with a polynomial in register 0. */
    static BigPolys with(BigInteger... x) {
        BigPolys p = new BigPolys();
        Polys.put(p, 0, x);
        return p;
    }

    static BigPolys with(long... x) {
        return with(poly(x));
    }

    void holds(String call, BigPolys p, int r, BigInteger... low) {
        check.text(call + ", register " + r, Polys.text(low), Polys.read(p, r));
    }

    void holds(String call, BigPolys p, int r, long... low) {
        holds(call, p, r, poly(low));
    }

    void holdsNothing(String call, BigPolys p, int r) {
        check.due(call + ", degree of " + r, -1, p.degree(r));
        for (int i = 0; i <= 8; i++) {
            check.due(call + ", sign of " + r + " " + i, 0, p.signOf(r, i));
            check.due(call + ", words of " + r + " " + i, 0, p.words(r, i));
        }
    }

    /** The answer 0 and the result, put into a third register. */
    void gives(Op op, BigInteger[] x, BigInteger[] y, BigInteger... due) {
        BigPolys p = with(x, y);
        check.due(op + " has a result", 0, op.call(p, 2, 0, 1));
        holds(op + " of " + Polys.text(x) + " and " + Polys.text(y), p, 2, due);
    }

    /** An answer other than 0; each register stays, wherever the result would have come. */
    void refuses(Op op, int answer, BigInteger[] x, BigInteger[] y) {
        for (int d = 0; d <= 2; d++) {
            BigPolys p = with(x, y);
            Polys.put(p, 2, 7, 0, -5);
            check.due(op + " has no result for " + d, answer, op.call(p, d, 0, 1));
            holds(op + " leaves x", p, 0, Model.trim(x));
            holds(op + " leaves y", p, 1, Model.trim(y));
            holds(op + " leaves d", p, 2, 7, 0, -5);
        }
    }

    void noRoom(Op op, BigInteger[] x, BigInteger[] y) {
        refuses(op, 3, x, y);
    }
}
