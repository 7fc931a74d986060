import java.math.BigInteger;

/** Promises 10 and 11: greatest common divisors and roots each once, at their edges. */
final class DivisorEdges extends Edges {
    DivisorEdges(Check check, Sentences sentences) {
        super(check, sentences);
    }

    @Override
    void run() {
        divisors();
        divisorsOfNumbers();
        largeDivisors();
        twoThatAreZero();
        eachOnce();
        complexOnes();
        noRoots();
        onceOfZero();
    }

    private void both(BigInteger[] x, BigInteger[] y, BigInteger... due) {
        gives(Op.GCD, x, y, due);
        gives(Op.GCD, y, x, due);
    }

    private void divisors() {
        sentences.promise(10, "d := the primitive greatest common divisor of x and y");
        both(poly(-1, 0, 1), poly(1, 2, 1), poly(1, 1));
        both(poly(-2, 0, 2), poly(-4, -8, -4), poly(1, 1));
        both(poly(1, 1), poly(2, 1), poly(1));
        both(poly(1, 0, 0, 0, 0, 0, 0, 0, 1), poly(0, 0, 0, 0, 0, 0, 0, 0, 1), poly(1));
        both(poly(0, 0, 0, 4), poly(0, 6), poly(0, 1));
        both(poly(1, 5, 6), poly(-1, 0, 4), poly(1, 2));
        both(poly(-1, 0, 0, 0, 0, 0, 0, 0, 1), poly(-1, 0, 0, 0, 0, 0, 1), poly(-1, 0, 1));
        gives(Op.GCD, poly(6, -4), poly(6, -4), poly(-3, 2));
        both(poly(0), poly(6, -4), poly(-3, 2));
        both(poly(0), poly(0, 0, 0, 0, 0, 0, 0, 0, -3), poly(0, 0, 0, 0, 0, 0, 0, 0, 1));
    }

    private void divisorsOfNumbers() {
        sentences.promise(10, "d := the primitive greatest common divisor of x and y");
        both(poly(4), poly(6), poly(1));
        both(poly(4), poly(4), poly(1));
        both(poly(-4), poly(0), poly(1));
        both(poly(4), poly(4, 8), poly(1));
        both(poly(FULL), poly(FULL, FULL), ONE);
    }

    private void largeDivisors() {
        sentences.promise(10, "d := the primitive greatest common divisor of x and y");
        BigInteger[] common = poly(Polys.two(150).add(ONE), BigInteger.TEN, Polys.two(150).subtract(ONE));
        both(Model.product(common, poly(9, 2, 0, 7)), Model.product(common, poly(-5, 3, 1)), common);
        BigInteger[] full = {FULL, FULL, FULL, FULL, FULL, FULL, FULL, FULL, FULL};
        both(full, full, poly(1, 1, 1, 1, 1, 1, 1, 1, 1));
        both(full, poly(FULL, FULL, FULL), poly(1, 1, 1));
    }

    private void twoThatAreZero() {
        sentences.promise(10, "(0 of two that are 0)");
        gives(Op.GCD, poly(0), poly(0), NOTHING);
        BigPolys p = with(1, 2, 3);
        check.due("into one that is not 0", 0, p.gcd(0, 6, 7));
        holdsNothing("into one that is not 0", p, 0);
        check.due("into itself", 0, p.gcd(7, 7, 7));
        holdsNothing("into itself", p, 7);
    }

    private void once(BigInteger[] x, BigInteger... due) {
        gives(Op.ONCE, x, poly(1), due);
    }

    private void eachOnce() {
        sentences.promise(11, "d := the primitive polynomial that has the roots of x");
        once(poly(-1, 1), poly(-1, 1));
        once(poly(1, -2, 1), poly(-1, 1));
        once(poly(0, 1), poly(0, 1));
        once(poly(0, 0, 0, 0, 0, 0, 0, 0, -12), poly(0, 1));
        once(poly(1, 8, 28, 56, 70, 56, 28, 8, 1), poly(1, 1));
        once(poly(0, 0, 0, 1, 2, 1), poly(0, 1, 1));
        once(poly(40320, -109584, 118124, -67284, 22449, -4536, 546, -36, 1),
                poly(40320, -109584, 118124, -67284, 22449, -4536, 546, -36, 1));
        once(poly(9, -12, 4), poly(-3, 2));
        // (t - 1)^4 (t + 1)^3 (t - 2)
        BigInteger[] x = Model.product(Model.product(poly(1, -4, 6, -4, 1), poly(1, 3, 3, 1)), poly(-2, 1));
        once(x, poly(2, -1, -2, 1));
        once(poly(FULL, FULL.shiftRight(1)), FULL, FULL.shiftRight(1));
    }

    private void complexOnes() {
        sentences.promise(11, "(also the complex ones), each once");
        once(poly(1, 0, 1), poly(1, 0, 1));
        once(poly(1, 0, 2, 0, 1), poly(1, 0, 1));
        once(poly(1, 0, 4, 0, 6, 0, 4, 0, 1), poly(1, 0, 1));
        once(poly(1, 2, 3, 2, 1), poly(1, 1, 1));
        // (t^2 + 1)^2 (t - 3)^2
        once(Model.product(poly(1, 0, 2, 0, 1), poly(9, -6, 1)), poly(-3, 1, -3, 1));
        once(poly(1, 0, 0, 0, 0, 0, 0, 0, 1), poly(1, 0, 0, 0, 0, 0, 0, 0, 1));
    }

    private void noRoots() {
        sentences.promise(11, "d := the primitive polynomial that has the roots of x");
        once(poly(1), poly(1));
        once(poly(-1), poly(1));
        once(poly(FULL.negate()), ONE);
    }

    private void onceOfZero() {
        sentences.promise(11, "2: x is 0");
        refuses(Op.ONCE, 2, poly(0), poly(1));
        BigPolys p = with(5);
        check.due("of a new register", 2, p.once(0, 7));
        holds("it stays", p, 0, 5);
        p.derive(0, 0);
        check.due("of one that became 0", 2, p.once(0, 0));
    }
}
