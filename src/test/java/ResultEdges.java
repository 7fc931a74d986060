import java.math.BigInteger;

/** Promises 4 to 9: sums, products, derivatives, shifts, remainders and quotients at their edges. */
final class ResultEdges extends Edges {
    ResultEdges(Check check, Sentences sentences) {
        super(check, sentences);
    }

    @Override
    void run() {
        sums();
        carries();
        differences();
        products();
        productCarries();
        derivatives();
        shifts();
        shiftsByTheEnds();
        remainders();
        remainderByZero();
        quotients();
        quotientWords();
        noSuchQuotient();
        quotientByZero();
    }

    private void sums() {
        sentences.promise(4, "d := x + y");
        gives(Op.ADD, poly(0), poly(0), NOTHING);
        gives(Op.ADD, poly(0), poly(0, 2), poly(0, 2));
        gives(Op.ADD, poly(0, 2), poly(0), poly(0, 2));
        gives(Op.ADD, poly(1, 2), poly(1, 2), poly(2, 4));
        gives(Op.ADD, poly(1), poly(0, 0, 0, 0, 0, 0, 0, 0, -1), poly(1, 0, 0, 0, 0, 0, 0, 0, -1));
        gives(Op.ADD, poly(1, 2, 3), poly(1, -2, -3), poly(2));
        gives(Op.ADD, poly(1, 2, 3), poly(-1, -2, -3), NOTHING);
        gives(Op.ADD, poly(FULL), poly(FULL.negate()), NOTHING);
    }

    /** A carry or a borrow that goes through all words, a word more or less at the end. */
    private void carries() {
        sentences.promise(4, "d := x + y");
        for (int words = 1; words <= 5; words++) {
            BigInteger round = Polys.two(31 * words);
            BigInteger below = round.subtract(ONE);
            gives(Op.ADD, poly(below), poly(1), round);
            gives(Op.ADD, poly(1), poly(below), round);
            gives(Op.ADD, poly(round), poly(-1), below);
            gives(Op.ADD, poly(-1), poly(round), below);
            gives(Op.MINUS, poly(below.negate()), poly(1), round.negate());
            gives(Op.MINUS, poly(round), poly(1), below);
            gives(Op.MINUS, poly(1), poly(round), below.negate());
            gives(Op.MINUS, poly(round), poly(below), ONE);
            gives(Op.ADD, poly(below), poly(below), below.shiftLeft(1));
        }
    }

    private void differences() {
        sentences.promise(4, "(minus: x - y)");
        gives(Op.MINUS, poly(0), poly(0), NOTHING);
        gives(Op.MINUS, poly(0), poly(0, 2), poly(0, -2));
        gives(Op.MINUS, poly(0, 2), poly(0), poly(0, 2));
        gives(Op.MINUS, poly(1, 2, 3), poly(1, 2, 3), NOTHING);
        gives(Op.MINUS, poly(1, 2, 3), poly(0, 2, 3), poly(1));
        gives(Op.MINUS, poly(1), poly(0, 0, 0, 0, 0, 0, 0, 0, 1), poly(1, 0, 0, 0, 0, 0, 0, 0, -1));
        gives(Op.MINUS, poly(FULL), poly(FULL), NOTHING);
        gives(Op.MINUS, poly(0), poly(FULL), FULL.negate());
        gives(Op.MINUS, poly(-3), poly(-5), poly(2));
    }

    private void products() {
        sentences.promise(5, "d := x y");
        gives(Op.MULTIPLY, poly(0), poly(0), NOTHING);
        gives(Op.MULTIPLY, poly(1, 2, 3), poly(0), NOTHING);
        gives(Op.MULTIPLY, poly(0), Polys.term(FULL, 8), NOTHING);
        gives(Op.MULTIPLY, poly(1, 2, 3), poly(1), poly(1, 2, 3));
        gives(Op.MULTIPLY, poly(-1), poly(1, 2, 3), poly(-1, -2, -3));
        gives(Op.MULTIPLY, poly(-1, -1), poly(-1, -1), poly(1, 2, 1));
        gives(Op.MULTIPLY, poly(-1, 1), poly(1, 1), poly(-1, 0, 1));
        gives(Op.MULTIPLY, poly(FULL), poly(-1), FULL.negate());
        BigPolys p = with(1, 1);
        check.due("a square in its place", 0, p.multiply(0, 0, 0));
        check.due("and again", 0, p.multiply(0, 0, 0));
        check.due("and again", 0, p.multiply(0, 0, 0));
        holds("(t + 1)^8", p, 0, 1, 8, 28, 56, 70, 56, 28, 8, 1);
        check.due("and no more", 3, p.multiply(0, 0, 0));
    }

    private void productCarries() {
        sentences.promise(5, "d := x y");
        for (int left = 1; left <= 5; left++) {
            for (int right = 1; left + right <= 6; right++) {
                BigInteger x = Polys.two(31 * left).subtract(ONE);
                BigInteger y = Polys.two(31 * right).subtract(ONE);
                gives(Op.MULTIPLY, poly(x), poly(y), x.multiply(y));
                gives(Op.MULTIPLY, poly(x.add(ONE)), poly(y.negate()), x.add(ONE).multiply(y).negate());
            }
        }
    }

    private void derivatives() {
        sentences.promise(6, "d := the derivative of x");
        gives(Op.DERIVE, poly(0), poly(1), NOTHING);
        gives(Op.DERIVE, poly(FULL), poly(1), NOTHING);
        gives(Op.DERIVE, poly(9, -4), poly(1), poly(-4));
        gives(Op.DERIVE, poly(9, 0, 1), poly(1), poly(0, 2));
        gives(Op.DERIVE, poly(1, 1, 1, 1, 1, 1, 1, 1, 1), poly(1), poly(1, 2, 3, 4, 5, 6, 7, 8));
        gives(Op.DERIVE, poly(FULL, FULL), poly(1), FULL);
        BigPolys p = with(0, 0, 0, 0, 0, 0, 0, 0, 1);
        for (int degree = 7; degree >= -1; degree--) {
            check.due("derive", 0, p.derive(0, 0));
            check.due("degree", degree, p.degree(0));
        }
        check.due("derive 0", 0, p.derive(0, 0));
        holdsNothing("derive 0", p, 0);
    }

    private void shifts() {
        sentences.promise(7, "d := x with t + c for the letter t");
        gives(Op.SHIFT, poly(0), poly(1), NOTHING);
        gives(Op.SHIFT, poly(-8), poly(1), poly(-8));
        gives(Op.SHIFT, poly(FULL), poly(1), FULL);
        gives(Op.SHIFT, poly(-3, 1), poly(1), poly(0, 1));
        gives(Op.SHIFT, poly(9, -6, 1), poly(1), poly(0, 0, 1));
        BigPolys p = with(1, 2, 3, 4, 5, 6, 7, 8, 9);
        check.due("by 0", 0, p.shift(1, 0, 0));
        check.due("by 0", true, p.same(0, 1));
        check.due("by -1", 0, p.shift(1, 0, -1));
        check.due("and back", 0, p.shift(1, 1, 1));
        check.due("and back", true, p.same(0, 1));
        p = with(0, 0, 0, 0, 0, 0, 0, 0, 1);
        check.due("t^8", 0, p.shift(0, 0, -1));
        holds("(t - 1)^8", p, 0, 1, -8, 28, -56, 70, -56, 28, -8, 1);
    }

    private void shiftsByTheEnds() {
        sentences.promise(7, "d := x with t + c for the letter t");
        BigPolys p = with(0, 1);
        check.due("the least", 0, p.shift(1, 0, LEAST));
        holds("the least", p, 1, LEAST, 1);
        check.due("the greatest", 0, p.shift(2, 0, MOST));
        holds("the greatest", p, 2, MOST, 1);
        p = with(0, 0, 0, 0, 0, 0, 1);
        check.due("2^186", 3, p.shift(0, 0, LEAST));
        check.due("(2^31 - 1)^6", 0, p.shift(1, 0, MOST));
        check.due("(2^31 - 1)^6", 6, p.words(1, 0));
        check.due("back by the greatest", 0, p.shift(1, 1, -MOST));
        check.due("back by the greatest", true, p.same(0, 1));
        p = with(0, 0, 0, 0, 0, 1);
        check.due("-2^155", 0, p.shift(1, 0, LEAST));
        check.due("-2^155", -1, p.signOf(1, 0));
        check.due("-2^155", 1, p.wordOf(1, 0, 5));
    }

    private void remainders() {
        sentences.promise(8, "d := the pseudo-remainder of x by y");
        gives(Op.REMAINDER, poly(1, 2, 3), poly(1, 2, 3), NOTHING);
        gives(Op.REMAINDER, poly(1, 2, 3), poly(FULL), NOTHING);
        gives(Op.REMAINDER, poly(1, 2, 3), poly(2, 2, 3), poly(-3));
        gives(Op.REMAINDER, poly(1, 2, 3), poly(0, 1), poly(1));
        gives(Op.REMAINDER, poly(1, 2, 3), poly(0, -1), poly(1));
        gives(Op.REMAINDER, poly(1, 2), poly(0, -1), poly(-1));
        gives(Op.REMAINDER, poly(1, 0, 0, 0, 0, 0, 0, 0, 1), poly(-1, 0, 1), poly(2));
        gives(Op.REMAINDER, poly(0, 1, 0, 0, 0, 0, 0, 0, 1), poly(0, 0, 0, 0, 0, 0, 0, 0, 7), poly(0, 7));
    }

    private void remainderByZero() {
        sentences.promise(8, "2: y is 0");
        refuses(Op.REMAINDER, 2, poly(1, 2, 3), poly(0));
        refuses(Op.REMAINDER, 2, poly(5), poly(0));
        refuses(Op.REMAINDER, 2, poly(0), poly(0));
        BigPolys p = with(1, 2, 3);
        p.add(1, 0, 0, true);
        check.due("by x - x", 2, p.remainder(0, 0, 1));
        check.due("by 0 itself", 2, p.remainder(1, 1, 1));
    }

    private void quotients() {
        sentences.promise(9, "d := q, if x is q y");
        gives(Op.QUOTIENT, poly(0), poly(5, 1), NOTHING);
        gives(Op.QUOTIENT, poly(0), poly(FULL), NOTHING);
        gives(Op.QUOTIENT, poly(5, 1), poly(5, 1), poly(1));
        gives(Op.QUOTIENT, poly(5, 1), poly(-5, -1), poly(-1));
        gives(Op.QUOTIENT, poly(5, 1), poly(1), poly(5, 1));
        gives(Op.QUOTIENT, poly(5, 1), poly(-1), poly(-5, -1));
        gives(Op.QUOTIENT, poly(6), poly(-3), poly(-2));
        gives(Op.QUOTIENT, poly(-6, 0, 9), poly(3), poly(-2, 0, 3));
        gives(Op.QUOTIENT, poly(-1, 0, 0, 0, 0, 0, 0, 0, 1), poly(-1, 1), poly(1, 1, 1, 1, 1, 1, 1, 1));
        gives(Op.QUOTIENT, poly(0, 0, 0, 0, 0, 0, 0, 0, 6), poly(0, 0, 0, 2), poly(0, 0, 0, 0, 0, 3));
        gives(Op.QUOTIENT, poly(FULL, FULL), poly(1, 1), FULL);
        gives(Op.QUOTIENT, poly(FULL, FULL), poly(FULL), ONE, ONE);
    }

    /** One word divides another's every length. */
    private void quotientWords() {
        sentences.promise(9, "d := q, if x is q y");
        for (int left = 1; left <= 5; left++) {
            for (int right = 1; left + right <= 6; right++) {
                BigInteger x = Polys.two(31 * left).subtract(ONE);
                BigInteger y = Polys.two(31 * right - 1);
                gives(Op.QUOTIENT, poly(x.multiply(y)), poly(y), x);
                gives(Op.QUOTIENT, poly(x.multiply(y).negate()), poly(x), y.negate());
                refuses(Op.QUOTIENT, 2, poly(x.multiply(y.add(ONE)).add(ONE)), poly(y.add(ONE)));
                refuses(Op.QUOTIENT, 2, poly(x.multiply(y.add(ONE)).subtract(ONE)), poly(y.add(ONE)));
            }
        }
    }

    private void noSuchQuotient() {
        sentences.promise(9, "2: there is no such q");
        refuses(Op.QUOTIENT, 2, poly(1, 1, 1), poly(1, 1));
        refuses(Op.QUOTIENT, 2, poly(1, 1), poly(1, 1, 1));
        refuses(Op.QUOTIENT, 2, poly(1), poly(0, 1));
        refuses(Op.QUOTIENT, 2, poly(1), poly(2));
        refuses(Op.QUOTIENT, 2, poly(2, 4), poly(4));
        refuses(Op.QUOTIENT, 2, poly(1, 1), poly(2, 2));
        refuses(Op.QUOTIENT, 2, poly(1, 2), poly(3, 2));
        refuses(Op.QUOTIENT, 2, poly(1, 0, 0, 0, 0, 0, 0, 0, 1), poly(1, 1));
        refuses(Op.QUOTIENT, 2, poly(FULL.subtract(ONE)), poly(FULL));
        refuses(Op.QUOTIENT, 2, poly(FULL.subtract(ONE), FULL), poly(FULL));
    }

    private void quotientByZero() {
        sentences.promise(9, "or y is 0");
        refuses(Op.QUOTIENT, 2, poly(1, 2, 3), poly(0));
        refuses(Op.QUOTIENT, 2, poly(5), poly(0));
        refuses(Op.QUOTIENT, 2, poly(0), poly(0));
        BigPolys p = with(1, 2, 3);
        p.add(1, 0, 0, true);
        check.due("by x - x", 2, p.quotient(0, 0, 1));
        check.due("0 by itself", 2, p.quotient(1, 1, 1));
    }
}
