import java.math.BigInteger;

/** Promises 16 to 20: what is read from registers, at its edges. */
final class ReadingEdges extends Edges {
    ReadingEdges(Check check, Sentences sentences) {
        super(check, sentences);
    }

    @Override
    void run() {
        degrees();
        degreeOfNone();
        signs();
        aboveTheDegree();
        noSignThere();
        wordCounts();
        zeroHasNone();
        noWordsThere();
        lowestFirst();
        noWordThere();
        holdTheSame();
        noneTheSame();
    }

    private void degrees() {
        sentences.promise(16, "The degree of x");
        for (int i = 0; i <= 8; i++) {
            check.due("t^" + i, i, with(Polys.term(ONE, i)).degree(0));
            check.due("-full t^" + i, i, with(Polys.term(FULL.negate(), i)).degree(0));
        }
        check.due("of 0", -1, new BigPolys().degree(0));
        BigPolys p = with(1, 2, 3, 4, 5, 6, 7, 8, 9);
        for (int i = 8; i >= 0; i--) {
            check.due("with " + i, i, p.degree(0));
            p.coefficient(0, i, 1);
        }
        check.due("without any", -1, p.degree(0));
    }

    private void degreeOfNone() {
        sentences.promise(16, "-2: no such register");
        for (int wrong : NO_REGISTERS) {
            check.due("register " + wrong, -2, new BigPolys().degree(wrong));
        }
        for (int r = 0; r <= 7; r++) {
            check.due("register " + r, -1, new BigPolys().degree(r));
        }
    }

    private void signs() {
        sentences.promise(17, "The sign of a coefficient");
        sentences.promise(17, ": -1, 0, 1");
        BigPolys p = with(poly(FULL.negate(), ZERO, FULL, BigInteger.valueOf(-1), ONE));
        int[] due = {-1, 0, 1, -1, 1};
        for (int i = 0; i < due.length; i++) {
            check.due("coefficient " + i, due[i], p.signOf(0, i));
        }
    }

    private void aboveTheDegree() {
        sentences.promise(17, "(0 above the degree)");
        for (int degree = -1; degree <= 8; degree++) {
            BigPolys p = degree < 0 ? new BigPolys() : with(Polys.term(ONE.negate(), degree));
            for (int i = degree + 1; i <= 8; i++) {
                check.due("above " + degree, 0, p.signOf(0, i));
            }
        }
        BigPolys p = with(1, 2, 3, 4, 5, 6, 7, 8, 9);
        check.due("a lower degree comes", 0, p.add(0, 1, 2, false));
        for (int i = 0; i <= 8; i++) {
            check.due("nothing is left at " + i, 0, p.signOf(0, i));
        }
    }

    private void noSignThere() {
        sentences.promise(17, "2: none such");
        BigPolys p = with(1, 2, 3, 4, 5, 6, 7, 8, 9);
        for (int wrong : NO_REGISTERS) {
            check.due("register " + wrong, 2, p.signOf(wrong, 0));
        }
        for (int wrong : NO_POWERS) {
            check.due("power " + wrong, 2, p.signOf(0, wrong));
            check.due("power " + wrong + " of 0", 2, p.signOf(7, wrong));
            check.due("neither", 2, p.signOf(wrong == 9 ? 8 : -1, wrong));
        }
    }

    private void wordCounts() {
        sentences.promise(18, "How many words a coefficient has");
        for (int n = 1; n <= 6; n++) {
            BigPolys p = with(Polys.two(31 * n - 31), Polys.two(31 * n).subtract(ONE), Polys.two(31 * n - 1).negate());
            for (int i = 0; i <= 2; i++) {
                check.due("coefficient " + i, n, p.words(0, i));
            }
        }
    }

    private void zeroHasNone() {
        sentences.promise(18, "(0 has none)");
        BigPolys p = with(0, 5);
        check.due("below the degree", 0, p.words(0, 0));
        for (int i = 2; i <= 8; i++) {
            check.due("above the degree", 0, p.words(0, i));
        }
        check.due("of 0", 0, p.words(7, 0));
        check.due("of 0", 0, p.words(7, 8));
        p = with(poly(FULL, FULL));
        p.add(0, 0, 0, true);
        check.due("they cancelled", 0, p.words(0, 0));
        check.due("they cancelled", 0, p.words(0, 1));
    }

    private void noWordsThere() {
        sentences.promise(18, "NONE: none such");
        BigPolys p = with(1, 2, 3, 4, 5, 6, 7, 8, 9);
        for (int wrong : NO_REGISTERS) {
            check.due("register " + wrong, -1, p.words(wrong, 0));
        }
        for (int wrong : NO_POWERS) {
            check.due("power " + wrong, -1, p.words(0, wrong));
            check.due("power " + wrong + " of 0", -1, p.words(7, wrong));
        }
    }

    private void lowestFirst() {
        sentences.promise(19, "Word j of a coefficient, the lowest first");
        BigInteger c = ZERO;
        for (int j = 5; j >= 0; j--) {
            c = c.shiftLeft(31).add(BigInteger.valueOf(j == 2 ? 0 : MOST - j));
        }
        BigPolys p = with(poly(c, c.negate()));
        for (int j = 0; j < 6; j++) {
            check.due("word " + j, j == 2 ? 0 : MOST - j, p.wordOf(0, 0, j));
            check.due("word " + j + ", minus", j == 2 ? 0 : MOST - j, p.wordOf(0, 1, j));
        }
    }

    private void noWordThere() {
        sentences.promise(19, "NONE: none such");
        BigPolys p = with(ZERO, Polys.two(31), FULL);
        check.due("of 0", -1, p.wordOf(0, 0, 0));
        check.due("the second", 1, p.wordOf(0, 1, 1));
        check.due("no third", -1, p.wordOf(0, 1, 2));
        check.due("the sixth", MOST, p.wordOf(0, 2, 5));
        check.due("no seventh", -1, p.wordOf(0, 2, 6));
        check.due("above the degree", -1, p.wordOf(0, 3, 0));
        for (int j : new int[] {-1, LEAST, MOST, 7, LEAST + 5}) {
            check.due("word " + j, -1, p.wordOf(0, 2, j));
        }
        for (int wrong : NO_REGISTERS) {
            check.due("register " + wrong, -1, p.wordOf(wrong, 2, 0));
        }
        for (int wrong : NO_POWERS) {
            check.due("power " + wrong, -1, p.wordOf(0, wrong, 0));
        }
        p.coefficient(0, 2, 1);
        check.due("no longer there", -1, p.wordOf(0, 2, 0));
        p.coefficient(0, 1, 1);
        p.word(3);
        p.word(0);
        check.due("a 0 at the top is none", -1, p.wordOf(0, 1, 1));
    }

    private void holdTheSame() {
        sentences.promise(20, "Whether two registers hold the same");
        same(true, poly(0), poly(0));
        same(true, poly(1, 2, 3), poly(1, 2, 3));
        same(true, poly(FULL.negate()), poly(FULL.negate()));
        same(false, poly(0), poly(1));
        same(false, poly(1), poly(-1));
        same(false, poly(1), poly(0, 1));
        same(false, poly(1, 2), poly(1, 2, 3));
        same(false, poly(1, 2, 3), poly(0, 2, 3));
        same(false, poly(1, 2, 3), poly(1, 0, 3));
        same(false, poly(FULL), poly(FULL.subtract(ONE)));
        same(false, poly(FULL), poly(FULL.subtract(Polys.two(185))));
        same(false, poly(Polys.two(31)), poly(1));
        for (int i = 0; i <= 8; i++) {
            BigInteger[] x = poly(1, 1, 1, 1, 1, 1, 1, 1, 1);
            x[i] = BigInteger.TWO;
            same(false, x, poly(1, 1, 1, 1, 1, 1, 1, 1, 1));
            x[i] = ONE.negate();
            same(false, x, poly(1, 1, 1, 1, 1, 1, 1, 1, 1));
        }
        BigPolys p = with(poly(FULL, FULL, FULL), poly(1, 2));
        p.add(0, 1, 7, false);
        check.due("what was there before does not matter", true, p.same(0, 1));
    }

    private void same(boolean due, BigInteger[] x, BigInteger[] y) {
        BigPolys p = with(x, y);
        check.due(Polys.text(x) + " and " + Polys.text(y), due, p.same(0, 1));
        check.due(Polys.text(y) + " and " + Polys.text(x), due, p.same(1, 0));
        check.due(Polys.text(x) + " and itself", true, p.same(0, 0));
    }

    private void noneTheSame() {
        sentences.promise(20, "False also: none such");
        BigPolys p = with(1, 2);
        for (int wrong : NO_REGISTERS) {
            check.due("x " + wrong, false, p.same(wrong, 0));
            check.due("y " + wrong, false, p.same(0, wrong));
            check.due("x " + wrong + ", of 0", false, p.same(wrong, 7));
            check.due("y " + wrong + ", of 0", false, p.same(7, wrong));
            check.due("both " + wrong, false, p.same(wrong, wrong));
        }
    }
}
