import java.math.BigInteger;

/** The terms: what registers hold, what has room, and what the words mean. */
final class TermsEdges extends Edges {
    /** FULL is three times this. */
    private static final BigInteger THIRD = FULL.divide(BigInteger.valueOf(3));

    TermsEdges(Check check, Sentences sentences) {
        super(check, sentences);
    }

    @Override
    void run() {
        registers();
        zeroAtFirst();
        degreesUpToEight();
        sixWords();
        exact();
        exactSigns();
        moreWords();
        moreWordsOnTheWayOfDivision();
        moreWordsAtEachPower();
        higherDegree();
        registerStays();
        degreeOfZero();
        pseudoRemainderOfLess();
        pseudoRemainder();
        noPrime();
        leadingAboveZero();
        primitivePart();
    }

    private void about(String quote) {
        sentences.about("Terms", quote);
    }

    private void registers() {
        about("REGISTERS 0 .. 7 hold polynomials");
        BigPolys p = new BigPolys();
        for (int r = 0; r <= 7; r++) {
            Polys.put(p, r, r + 1, -r, 10 + r);
        }
        for (int r = 0; r <= 7; r++) {
            holds("all at once", p, r, r + 1, -r, 10 + r);
        }
        for (int r : NO_REGISTERS) {
            check.due("no register " + r, -2, p.degree(r));
        }
    }

    private void zeroAtFirst() {
        about("(0 at first)");
        BigPolys p = new BigPolys();
        for (int r = 0; r <= 7; r++) {
            check.due("degree of " + r, -1, p.degree(r));
            check.due("sign of 0 in " + r, 0, p.signOf(r, 0));
        }
    }

    private void degreesUpToEight() {
        about("of degrees up to 8");
        for (int r = 0; r <= 7; r++) {
            BigPolys p = new BigPolys();
            Polys.put(p, r, 1, 2, 3, 4, 5, 6, 7, 8, 9);
            holds("degree 8", p, r, 1, 2, 3, 4, 5, 6, 7, 8, 9);
            check.due("no coefficient 9", false, p.coefficient(r, 9, 1));
        }
        gives(Op.MULTIPLY, poly(1, 0, 0, 1), poly(-1, 0, 0, 0, 0, 1), poly(-1, 0, 0, -1, 0, 1, 0, 0, 1));
    }

    private void sixWords() {
        about("a coefficient has a sign and up to 6 WORDS of 31 bits");
        for (int i = 0; i <= 8; i++) {
            for (int sign = -1; sign <= 1; sign += 2) {
                BigPolys p = new BigPolys();
                BigInteger c = sign < 0 ? FULL.negate() : FULL;
                Polys.put(p, 3, Polys.term(c, i));
                check.due("no seventh word", false, p.word(1));
                holds("186 bits", p, 3, Polys.term(c, i));
                check.due("sign", sign, p.signOf(3, i));
                check.due("words", 6, p.words(3, i));
                check.due("highest word", MOST, p.wordOf(3, i, 5));
            }
        }
    }

    /** What comes on the way has more than 186 bits; the result has room. */
    private void exact() {
        about("Results are exact");
        BigInteger[] steps = Model.scaled(poly(1, 1, 1, 1), THIRD);
        BigInteger[] power = poly(1, -4, 6, -4, 1);
        BigInteger[] product = Model.scaled(poly(1, -3, 3, -1, -1, 3, -3, 1), THIRD);
        gives(Op.MULTIPLY, steps, power, product);
        gives(Op.QUOTIENT, product, power, steps);
        gives(Op.QUOTIENT, product, steps, power);
        BigPolys p = with(Model.scaled(poly(1, -3, -3, 2), THIRD));
        check.due("shift", 0, p.shift(0, 0, 1));
        holds("shift", p, 0, Model.scaled(poly(-3, -3, 3, 2), THIRD));
        BigInteger lead = Polys.two(40);
        BigInteger[] y = poly(BigInteger.valueOf(-9), ONE, lead);
        BigInteger[] x = Model.sum(Model.product(y, poly(Polys.two(100), FULL.shiftRight(50), ONE)), poly(5, 1), false);
        gives(Op.REMAINDER, x, y, lead.pow(3).multiply(BigInteger.valueOf(5)), lead.pow(3));
        BigInteger[] large = {FULL, ONE, FULL, ZERO, FULL, ZERO, ZERO, FULL, FULL};
        gives(Op.GCD, large, Model.slope(poly(1, 1, 1, 1, 1, 1, 1, 1, 1)), ONE);
        gives(Op.ONCE, large, large, Model.primitive(large));
    }

    /** A last bit decides. */
    private void exactSigns() {
        about("Results are exact");
        BigInteger k = Polys.two(150);
        BigInteger up = BigInteger.valueOf(MOST);
        for (int last = -1; last <= 1; last++) {
            BigInteger more = BigInteger.valueOf(last);
            BigPolys p = with(k.multiply(up).negate().add(more), k.multiply(up.subtract(ONE)));
            check.due("sign by a last bit", last, p.sign(0, MOST, MOST - 1));
            p = with(k.multiply(BigInteger.valueOf(-5)).subtract(more), k);
            check.due("a root next to 5, above", last > 0 ? 1 : 0, p.roots(0, 5, 6));
            check.due("a root next to 5, up to", last > 0 ? 0 : 1, p.roots(0, 4, 5));
            check.due("floor of a root next to 5", last < 0 ? 4 : 5, p.place(0, 0));
        }
    }

    private void moreWords() {
        about("one that has a coefficient of more words");
        gives(Op.ADD, poly(FULL.subtract(ONE)), poly(1), FULL);
        noRoom(Op.ADD, poly(FULL), poly(1));
        noRoom(Op.ADD, poly(FULL), poly(FULL));
        gives(Op.MINUS, poly(ONE.subtract(FULL)), poly(1), FULL.negate());
        noRoom(Op.MINUS, poly(FULL.negate()), poly(1));
        BigInteger half = Polys.two(93);
        gives(Op.MULTIPLY, poly(half.subtract(ONE)), poly(half.add(ONE)), FULL);
        noRoom(Op.MULTIPLY, poly(half), poly(half));
        noRoom(Op.MULTIPLY, poly(half.negate()), poly(half));
        noRoom(Op.MULTIPLY, poly(half, half), poly(half.shiftRight(1), half.shiftRight(1)));
        noRoom(Op.MULTIPLY, poly(FULL), poly(FULL));
        for (int i = 1; i <= 8; i++) {
            BigInteger most = FULL.divide(BigInteger.valueOf(i));
            BigInteger due = most.multiply(BigInteger.valueOf(i));
            gives(Op.DERIVE, Polys.term(most, i), poly(1), Polys.term(due, i - 1));
            if (i > 1) {
                noRoom(Op.DERIVE, Polys.term(most.add(ONE), i), poly(1));
            }
        }
        gives(Op.SHIFT, poly(FULL.subtract(BigInteger.valueOf(3)), ONE), poly(1), FULL, ONE);
        noRoom(Op.SHIFT, poly(FULL.subtract(BigInteger.TWO), ONE), poly(1));
        gives(Op.REMAINDER, poly(FULL.subtract(ONE), ONE), poly(-1, 1), FULL);
        noRoom(Op.REMAINDER, poly(FULL, ONE), poly(-1, 1));
        gives(Op.REMAINDER, poly(FULL.subtract(ONE).negate(), ONE), poly(1, 1), FULL.negate());
        noRoom(Op.REMAINDER, poly(FULL.negate(), ONE), poly(1, 1));
    }

    /** Quotients and divisors with larger coefficients than what they divide. */
    private void moreWordsOnTheWayOfDivision() {
        about("one that has a coefficient of more words");
        gives(Op.QUOTIENT, Model.product(hill(FULL), poly(1, -2, 1)), poly(1, -2, 1), hill(FULL));
        noRoom(Op.QUOTIENT, Model.product(hill(OVER), poly(1, -2, 1)), poly(1, -2, 1));
        gives(Op.GCD, Model.product(hill(FULL), poly(1, -2, 1)), Model.product(hill(FULL), poly(1, -1, 1)), hill(FULL));
        noRoom(Op.GCD, Model.product(hill(OVER), poly(1, -2, 1)), Model.product(hill(OVER), poly(1, -1, 1)));
        gives(Op.ONCE, Model.product(simple(FULL), poly(-1, 1)), poly(1), simple(FULL));
        noRoom(Op.ONCE, Model.product(simple(OVER), poly(-1, 1)), poly(1));
    }

    /** Primitive, with the coefficient told in the middle; (t - 1)^2 times it is smaller. */
    private static BigInteger[] hill(BigInteger middle) {
        BigInteger c = Polys.two(184).subtract(BigInteger.valueOf(3));
        BigInteger d = c.shiftLeft(1);
        BigInteger e = c.add(d);
        return poly(c, d, e, middle, e, d, c);
    }

    /** (t^3 - 1) (c t^2 + m t + c), which has each root once; t - 1 times it is smaller. */
    private static BigInteger[] simple(BigInteger m) {
        BigInteger c = Polys.two(185).subtract(ONE);
        return poly(c.negate(), m.negate(), c.negate(), c, m, c);
    }

    private void moreWordsAtEachPower() {
        about("one that has a coefficient of more words");
        for (int i = 0; i <= 8; i++) {
            noRoom(Op.ADD, Polys.term(FULL, i), Polys.term(ONE, i));
            noRoom(Op.MINUS, Polys.term(FULL, i), Polys.term(ONE.negate(), i));
            noRoom(Op.MULTIPLY, Polys.term(FULL, i), poly(-2));
        }
    }

    private void higherDegree() {
        about("or a higher degree, finds NO ROOM");
        for (int i = 0; i <= 8; i++) {
            for (int j = 0; j <= 8; j++) {
                BigInteger[] x = Polys.term(ONE, i);
                BigInteger[] y = Polys.term(ONE.negate(), j);
                if (i + j <= 8) {
                    gives(Op.MULTIPLY, x, y, Polys.term(ONE.negate(), i + j));
                } else {
                    noRoom(Op.MULTIPLY, x, y);
                }
            }
        }
        BigPolys p = with(Polys.term(ONE, 8));
        check.due("degree 8 by 0", 0, p.multiply(0, 0, 7));
        holdsNothing("degree 8 by 0", p, 0);
    }

    /** All coefficients stay, also those for which there would have been room. */
    private void registerStays() {
        about("then the register stays");
        BigInteger[] x = {FULL, ONE, ONE, FULL};
        noRoom(Op.ADD, x, poly(1, 1, 1, 1, 1));
        noRoom(Op.MINUS, x, poly(-1, 1, 1, 1, 1));
        noRoom(Op.MULTIPLY, x, poly(0, 1, 2));
        noRoom(Op.DERIVE, x, poly(1));
        noRoom(Op.SHIFT, x, poly(1));
        noRoom(Op.REMAINDER, x, poly(1, 1, 2));
    }

    private void degreeOfZero() {
        about("The DEGREE of 0 is -1, its leading coefficient 0");
        BigPolys p = with(poly(3, 2, 1), poly(6));
        check.due("add", 0, p.add(2, 0, 0, true));
        holdsNothing("x - x", p, 2);
        check.due("multiply", 0, p.multiply(0, 0, 7));
        holdsNothing("x 0", p, 0);
        check.due("derive", 0, p.derive(3, 1));
        holdsNothing("derivative of 6", p, 3);
        p = with(poly(3, 2, 1), poly(6));
        check.due("remainder", 0, p.remainder(0, 0, 1));
        holdsNothing("remainder by 6", p, 0);
        check.due("quotient", 0, p.quotient(1, 7, 1));
        holdsNothing("quotient of 0", p, 1);
        check.due("gcd", 0, p.gcd(3, 0, 1));
        holdsNothing("gcd of 0 and 0", p, 3);
        p = with(3, 2);
        p.coefficient(0, 1, -1);
        p.coefficient(0, 0, -1);
        p.word(0);
        holdsNothing("emptied", p, 0);
        check.due("same", true, p.same(0, 7));
    }

    private void pseudoRemainderOfLess() {
        about("The PSEUDO-REMAINDER of x by y (not 0): x, if its degree is less");
        gives(Op.REMAINDER, poly(4, 6), poly(1, 1, 9), poly(4, 6));
        gives(Op.REMAINDER, poly(4), poly(0, 0, 0, 0, 0, 0, 0, 0, 2), poly(4));
        gives(Op.REMAINDER, poly(FULL), poly(ZERO, FULL), FULL);
        gives(Op.REMAINDER, poly(0), poly(5, 5), NOTHING);
        gives(Op.REMAINDER, poly(0), poly(5), NOTHING);
    }

    private void pseudoRemainder() {
        about("else the remainder of lc(y)^(deg x - deg y + 1) x by y");
        gives(Op.REMAINDER, poly(4, 6), poly(1, 3), poly(6));
        gives(Op.REMAINDER, poly(4, 6), poly(1, -3), poly(-18));
        gives(Op.REMAINDER, poly(1, 1, 1), poly(3, -2), poly(19));
        gives(Op.REMAINDER, poly(1, 1, 1, 1), poly(3, -2), poly(-65));
        gives(Op.REMAINDER, poly(0, 0, 0, 0, 1), poly(0, 1, 2), poly(0, -1));
        gives(Op.REMAINDER, poly(1, 0, 0, 0, 0, 0, 0, 0, 1), poly(0, 0, 3), poly(2187));
        gives(Op.REMAINDER, poly(1, 0, 0, 0, 0, 0, 0, 0, 1), poly(0, -3), poly(6561));
        gives(Op.REMAINDER, poly(7, 1, 1), poly(-2), NOTHING);
        gives(Op.REMAINDER, poly(7), poly(2), NOTHING);
    }

    private void noPrime() {
        about("A polynomial is PRIMITIVE when no prime divides all its coefficients");
        gives(Op.GCD, poly(0), poly(30, 0, 42), poly(5, 0, 7));
        gives(Op.GCD, poly(6, 6), poly(12, 12), poly(1, 1));
        gives(Op.GCD, poly(0, 0, 6), poly(0, 9), poly(0, 1));
        gives(Op.GCD, poly(FULL, FULL), poly(0), ONE, ONE);
        gives(Op.ONCE, poly(30, 0, 42), poly(1), poly(5, 0, 7));
        gives(Op.ONCE, poly(0, 1024), poly(1), poly(0, 1));
        BigInteger prime = Polys.two(127).subtract(ONE);
        gives(Op.ONCE, poly(prime, prime.multiply(Polys.two(30))), poly(1), ONE, Polys.two(30));
    }

    private void leadingAboveZero() {
        about("and its leading one is above 0");
        gives(Op.GCD, poly(1, -1), poly(1, -1), poly(-1, 1));
        gives(Op.GCD, poly(1, 0, -1), poly(-1, 1), poly(-1, 1));
        gives(Op.GCD, poly(-5), poly(0), ONE);
        gives(Op.GCD, poly(0), poly(-1, -1), poly(1, 1));
        gives(Op.ONCE, poly(1, -1), poly(1), poly(-1, 1));
        gives(Op.ONCE, poly(-1, 2, -1), poly(1), poly(-1, 1));
        gives(Op.ONCE, poly(-7), poly(1), ONE);
        for (int signs = 0; signs < 4; signs++) {
            long sign = signs < 2 ? 1 : -1;
            long lower = signs % 2 == 0 ? sign : -sign;
            // a multiple of 2 t +- 3 that has a leading coefficient of either sign
            BigInteger[] x = poly(6 * lower, 4 * sign);
            BigInteger[] due = poly(3 * lower * sign, 2);
            gives(Op.GCD, x, poly(0), due);
            gives(Op.GCD, poly(0), x, due);
            gives(Op.GCD, x, Model.product(due, poly(1, -1)), due);
            gives(Op.GCD, Model.product(x, poly(1, 1)), Model.product(due, poly(1, -1)), due);
            gives(Op.ONCE, x, poly(1), due);
            gives(Op.ONCE, Model.product(x, due), poly(1), due);
        }
    }

    private void primitivePart() {
        about("the primitive part of one that is not 0 is the primitive one of which it is a multiple by a whole number");
        for (long by : new long[] {1, -1, 6, -35, MOST, LEAST}) {
            BigInteger[] primitive = poly(-4, 0, 6, 9);
            gives(Op.GCD, Model.scaled(primitive, BigInteger.valueOf(by)), poly(0), primitive);
            gives(Op.GCD, poly(0), Model.scaled(primitive, BigInteger.valueOf(by)), primitive);
        }
        for (int i = 0; i <= 8; i++) {
            gives(Op.GCD, Polys.term(FULL.negate(), i), poly(0), Polys.term(ONE, i));
        }
    }
}
