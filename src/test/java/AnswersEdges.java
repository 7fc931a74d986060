import java.math.BigInteger;

/** The terms: what calls answer that put a result, and what becomes of the coefficient at hand. */
final class AnswersEdges extends Edges {
    /** Two of which each call has a result: (t + 3) (t - 2) and t + 3. */
    private static final BigInteger[] X = poly(-6, 1, 1);
    private static final BigInteger[] Y = poly(3, 1);

    AnswersEdges(Check check, Sentences sentences) {
        super(check, sentences);
    }

    @Override
    void run() {
        itIsThere();
        noSuchRegister();
        notToBeHad();
        noRoom();
        oneBeforeTwo();
        oneBeforeThree();
        twoBeforeThree();
        whereAnOperandWas();
        whereBothOperandsWere();
        nothingAtHand();
        stillAtHandElsewhere();
        stillAtHandWithoutResult();
    }

    private void about(String quote) {
        sentences.about("Terms", quote);
    }

    private void itIsThere() {
        about("Answers of calls that put a result into a register: 0 it is there");
        gives(Op.ADD, X, Y, poly(-3, 2, 1));
        gives(Op.MINUS, X, Y, poly(-9, 0, 1));
        gives(Op.MULTIPLY, X, Y, poly(-18, -3, 4, 1));
        gives(Op.DERIVE, X, Y, poly(1, 2));
        gives(Op.SHIFT, X, Y, poly(6, 7, 1));
        gives(Op.REMAINDER, X, Y, NOTHING);
        gives(Op.QUOTIENT, X, Y, poly(-2, 1));
        gives(Op.GCD, X, Y, Y);
        gives(Op.ONCE, X, Y, X);
        for (Op op : Op.values()) {
            BigPolys p = with(X, Y);
            for (int d = 2; d <= 7; d++) {
                check.due(op + " into " + d, 0, op.call(p, d, 0, 1));
                check.due(op + " into " + d, true, p.same(d, 2));
            }
        }
    }

    private void noSuchRegister() {
        about("1 no such register");
        for (Op op : Op.values()) {
            for (int wrong : NO_REGISTERS) {
                BigPolys p = with(X, Y);
                check.due(op + ", d " + wrong, 1, op.call(p, wrong, 0, 1));
                check.due(op + ", x " + wrong, 1, op.call(p, 2, wrong, 1));
                check.due(op + ", y " + wrong, op.hasTwo ? 1 : 0, op.call(p, 3, 0, wrong));
                check.due(op + ", all " + wrong, 1, op.call(p, wrong, wrong, wrong));
                holds(op + " leaves", p, 0, X);
                holds(op + " leaves", p, 1, Y);
                check.due(op + " leaves", -1, p.degree(2));
            }
        }
    }

    private void notToBeHad() {
        about("2 it is not to be had (as told)");
        refuses(Op.REMAINDER, 2, X, poly(0));
        refuses(Op.QUOTIENT, 2, X, poly(0));
        refuses(Op.QUOTIENT, 2, X, poly(4, 1));
        refuses(Op.ONCE, 2, poly(0), Y);
        for (Op op : new Op[] {Op.ADD, Op.MINUS, Op.MULTIPLY, Op.DERIVE, Op.SHIFT, Op.GCD}) {
            gives(op, poly(0), poly(0), NOTHING);
        }
    }

    private void noRoom() {
        about("3 no room");
        for (Op op : Op.values()) {
            noRoom(op, tooLarge(op)[0], tooLarge(op)[1]);
        }
    }

    /** Two of which a call's result finds no room. */
    private static BigInteger[][] tooLarge(Op op) {
        BigInteger c = Polys.two(184).add(BigInteger.valueOf(5));
        BigInteger[] hill = Model.sum(Model.scaled(poly(1, 2, 3, 4, 3, 2, 1), c), poly(0, 1), false);
        switch (op) {
            case MINUS:
                return new BigInteger[][] {poly(FULL, ONE, FULL), poly(-1)};
            case QUOTIENT:
                return new BigInteger[][] {Model.product(hill, poly(1, -2, 1)), poly(1, -2, 1)};
            case GCD:
                return new BigInteger[][] {Model.product(hill, poly(1, -2, 1)), Model.product(hill, poly(1, -1, 1))};
            case ONCE:
                BigInteger d = Polys.two(185).subtract(ONE);
                BigInteger[] simple = poly(d.negate(), OVER.negate(), d.negate(), d, OVER, d);
                return new BigInteger[][] {Model.product(simple, poly(-1, 1)), poly(1)};
            case REMAINDER:
                return new BigInteger[][] {poly(FULL, ONE, FULL), poly(1, 2)};
            default:
                return new BigInteger[][] {poly(FULL, ONE, FULL), poly(1, 0, 2)};
        }
    }

    private void oneBeforeTwo() {
        about("of more than one that holds the least is answered");
        for (int wrong : NO_REGISTERS) {
            BigPolys p = with(X, Y);
            check.due("remainder by 0", 1, p.remainder(wrong, 0, 7));
            check.due("remainder by 0", 1, p.remainder(0, wrong, 7));
            check.due("quotient by 0", 1, p.quotient(wrong, 0, 7));
            check.due("quotient by 0", 1, p.quotient(0, wrong, 7));
            check.due("no quotient", 1, p.quotient(wrong, 1, 0));
            check.due("once of 0", 1, p.once(wrong, 7));
            holds("it stays", p, 0, X);
        }
    }

    private void oneBeforeThree() {
        about("of more than one that holds the least is answered");
        for (Op op : Op.values()) {
            BigPolys p = with(tooLarge(op)[0], tooLarge(op)[1]);
            for (int wrong : NO_REGISTERS) {
                check.due(op + " into none", 1, op.call(p, wrong, 0, 1));
            }
            check.due(op + " into one", 3, op.call(p, 2, 0, 1));
        }
        BigPolys p = with(Polys.term(ONE, 8));
        check.due("degree 16 into none", 1, p.multiply(8, 0, 0));
    }

    /** A division that would go beyond all room before it shows that there is no q. */
    private void twoBeforeThree() {
        about("of more than one that holds the least is answered");
        BigInteger[] full = {FULL, FULL, FULL, FULL, FULL, FULL, FULL, FULL, FULL};
        refuses(Op.QUOTIENT, 2, full, poly(FULL, ONE));
        refuses(Op.QUOTIENT, 2, full, poly(FULL, ONE.negate()));
        refuses(Op.QUOTIENT, 2, full, poly(FULL.negate(), FULL.negate(), FULL, ONE));
        BigInteger[][] large = tooLarge(Op.QUOTIENT);
        refuses(Op.QUOTIENT, 2, Model.sum(large[0], poly(1), false), large[1]);
    }

    private void whereAnOperandWas() {
        about("A result may come where an operand was");
        for (Op op : Op.values()) {
            BigPolys p = with(X, Y);
            check.due(op + " elsewhere", 0, op.call(p, 2, 0, 1));
            String due = Polys.read(p, 2);
            check.due(op + " into x", 0, op.call(p, 0, 0, 1));
            check.text(op + " into x", due, Polys.read(p, 0));
            holds(op + " leaves y", p, 1, Y);
            p = with(X, Y);
            check.due(op + " into y", 0, op.call(p, 1, 0, 1));
            check.text(op + " into y", due, Polys.read(p, 1));
            holds(op + " leaves x", p, 0, X);
        }
    }

    private void whereBothOperandsWere() {
        about("A result may come where an operand was");
        for (Op op : Op.values()) {
            BigPolys p = with(X);
            check.due(op + " elsewhere", 0, op.call(p, 2, 0, 0));
            String due = Polys.read(p, 2);
            check.due(op + " into both", 0, op.call(p, 0, 0, 0));
            check.text(op + " into both", due, Polys.read(p, 0));
        }
    }

    private void nothingAtHand() {
        about("(No coefficient is at hand when its register got a result.)");
        for (Op op : Op.values()) {
            BigPolys p = with(X, Y);
            check.due(op + ": one is at hand", true, p.coefficient(2, 5, 1));
            check.due(op + " puts a result", 0, op.call(p, 2, 0, 1));
            String result = Polys.read(p, 2);
            check.due(op + ": none is at hand", false, p.word(1));
            check.text(op + ": the result stays", result, Polys.read(p, 2));
            check.due(op + ": one is at hand again", true, p.coefficient(2, 5, 1));
            check.due(op + ": one is at hand again", true, p.word(1));
        }
        BigPolys p = with(X);
        p.coefficient(3, 0, 1);
        check.due("the result is what was there", 0, p.add(3, 3, 3, false));
        check.due("none is at hand", false, p.word(1));
    }

    private void stillAtHandElsewhere() {
        about("(No coefficient is at hand when its register got a result.)");
        for (Op op : Op.values()) {
            BigPolys p = with(X, Y);
            p.coefficient(2, 5, -1);
            p.word(4);
            check.due(op + " puts a result elsewhere", 0, op.call(p, 3, 0, 1));
            check.due(op + ": still at hand", true, p.word(6));
            holds(op + ": and gets its word", p, 2, Polys.term(BigInteger.valueOf(6L << 31 | 4).negate(), 5));
        }
        for (Op op : Op.values()) {
            BigPolys p = with(X, Y);
            // x is at hand and an operand: -6 + t + t^2 without its number
            p.coefficient(0, 0, -1);
            p.word(6);
            check.due(op + " of what is at hand", 0, op.call(p, 3, 0, 1));
            check.due(op + ": still at hand", true, p.word(1));
            check.due(op + ": and gets its word", 2, p.words(0, 0));
        }
    }

    private void stillAtHandWithoutResult() {
        about("(No coefficient is at hand when its register got a result.)");
        for (Op op : Op.values()) {
            BigPolys p = with(tooLarge(op)[0], tooLarge(op)[1]);
            p.coefficient(2, 0, 1);
            check.due(op + " finds no room", 3, op.call(p, 2, 0, 1));
            check.due(op + ": still at hand", true, p.word(1));
            check.due(op + " finds no register", 1, op.call(p, 2, 8, 1));
            check.due(op + ": still at hand", true, p.word(2));
            holds(op + ": and gets its words", p, 2, (2L << 31) + 1);
        }
        BigPolys p = with(X);
        p.coefficient(2, 0, 1);
        check.due("not to be had", 2, p.remainder(2, 0, 7));
        check.due("still at hand", true, p.word(1));
        check.due("not to be had", 2, p.quotient(2, 0, 7));
        check.due("still at hand", true, p.word(2));
        check.due("not to be had", 2, p.once(2, 7));
        check.due("still at hand", true, p.word(3));
        check.due("three words", 3, p.words(2, 0));
    }
}
