import java.math.BigInteger;

/** Promises 1 to 3: a new object, and how coefficients come in. */
final class WritingEdges extends Edges {
    private static final int[] BELOW_ZERO = {-1, -2, LEAST, LEAST + 1};

    WritingEdges(Check check, Sentences sentences) {
        super(check, sentences);
    }

    @Override
    void run() {
        newRegisters();
        newHand();
        atHand();
        becomesZero();
        signOfWords();
        noneAtHandThen();
        noSuchRegister();
        noSuchPower();
        nextHigher();
        zerosAtTheTop();
        zerosBetween();
        noneIs();
        belowZero();
        thereAreSix();
    }

    private void newRegisters() {
        sentences.promise(1, "All registers are 0");
        BigPolys p = new BigPolys();
        for (int r = 0; r <= 7; r++) {
            holdsNothing("new", p, r);
            check.due("same", true, p.same(r, 0));
        }
    }

    private void newHand() {
        sentences.promise(1, "no coefficient is at hand");
        BigPolys p = new BigPolys();
        check.due("word", false, p.word(0));
        check.due("word", false, p.word(1));
        check.due("nothing came", -1, p.degree(0));
        BigPolys other = new BigPolys();
        check.due("at hand in another object", true, other.coefficient(0, 0, 1));
        check.due("word", false, p.word(1));
    }

    private void atHand() {
        sentences.promise(2, "The coefficient of the i-th power in a register is at hand");
        for (int r = 0; r <= 7; r++) {
            for (int i = 0; i <= 8; i++) {
                BigPolys p = new BigPolys();
                check.due("coefficient", true, p.coefficient(r, i, 1));
                check.due("word", true, p.word(10 * r + i + 1));
                for (int s = 0; s <= 7; s++) {
                    check.due("degree of " + s, s == r ? i : -1, p.degree(s));
                }
                holds("that one alone", p, r, Polys.term(BigInteger.valueOf(10 * r + i + 1), i));
            }
        }
    }

    private void becomesZero() {
        sentences.promise(2, ", and 0");
        BigPolys p = with(1, 0, -3, 0, 5);
        check.due("the lowest", true, p.coefficient(0, 0, 1));
        holds("the lowest", p, 0, 0, 0, -3, 0, 5);
        check.due("the leading one", true, p.coefficient(0, 4, 1));
        holds("the leading one", p, 0, 0, 0, -3);
        check.due("degree then", 2, p.degree(0));
        check.due("one that is 0", true, p.coefficient(0, 8, 1));
        holds("one that is 0", p, 0, 0, 0, -3);
        check.due("the last one", true, p.coefficient(0, 2, 1));
        holdsNothing("the last one", p, 0);
        p = with(poly(FULL, FULL.negate()));
        check.due("all six words", true, p.coefficient(0, 1, 1));
        check.due("no word", 0, p.words(0, 1));
        check.due("no sign", 0, p.signOf(0, 1));
        check.due("no word", -1, p.wordOf(0, 1, 0));
        check.due("anew", true, p.word(2));
        holds("anew", p, 0, FULL, BigInteger.TWO);
    }

    private void signOfWords() {
        sentences.promise(2, "words that come have that sign (below 0: minus)");
        for (int sign : new int[] {LEAST, -2, -1, 0, 1, 2, MOST}) {
            BigPolys p = new BigPolys();
            check.due("sign " + sign, true, p.coefficient(0, 3, sign));
            check.due("0 has no sign", 0, p.signOf(0, 3));
            check.due("word 0", true, p.word(0));
            check.due("0 has no sign", 0, p.signOf(0, 3));
            check.due("word", true, p.word(5));
            check.due("sign " + sign, sign < 0 ? -1 : 1, p.signOf(0, 3));
            check.due("word", true, p.word(5));
            check.due("sign " + sign, sign < 0 ? -1 : 1, p.signOf(0, 3));
        }
        BigPolys p = new BigPolys();
        p.coefficient(0, 0, -1);
        p.coefficient(0, 0, 1);
        p.word(1);
        check.due("the later sign", 1, p.signOf(0, 0));
    }

    private void noneAtHandThen() {
        sentences.promise(2, "False (none is at hand then)");
        int[][] refused = {{8, 0}, {-1, 0}, {0, 9}, {0, -1}, {8, 9}};
        for (int[] at : refused) {
            BigPolys p = new BigPolys();
            p.coefficient(0, 0, 1);
            p.word(3);
            check.due("refused", false, p.coefficient(at[0], at[1], 1));
            check.due("none at hand", false, p.word(4));
            holds("what had come stays", p, 0, 3);
            check.due("at hand again", true, p.coefficient(0, 1, 1));
            check.due("at hand again", true, p.word(5));
            holds("at hand again", p, 0, 3, 5);
        }
    }

    private void noSuchRegister() {
        sentences.promise(2, "no such register");
        for (int wrong : NO_REGISTERS) {
            BigPolys p = with(1, 2);
            check.due("register " + wrong, false, p.coefficient(wrong, 0, 1));
            check.due("register " + wrong, false, p.coefficient(wrong, 8, -1));
            holds("it stays", p, 0, 1, 2);
        }
        BigPolys p = new BigPolys();
        check.due("register 0", true, p.coefficient(0, 0, 1));
        check.due("register 7", true, p.coefficient(7, 0, 1));
    }

    private void noSuchPower() {
        sentences.promise(2, "i is not 0 .. 8");
        for (int wrong : NO_POWERS) {
            BigPolys p = with(1, 2);
            check.due("power " + wrong, false, p.coefficient(0, wrong, 1));
            holds("it stays", p, 0, 1, 2);
        }
        for (int i = 0; i <= 8; i++) {
            check.due("power " + i, true, new BigPolys().coefficient(0, i, 1));
        }
    }

    private void nextHigher() {
        sentences.promise(3, "The next higher word of what is at hand");
        BigPolys p = new BigPolys();
        int[] words = {MOST, 1, 0, 7, MOST, 1};
        p.coefficient(6, 8, -1);
        for (int n = 0; n < 6; n++) {
            check.due("word " + n, true, p.word(words[n]));
            for (int j = 0; j <= n; j++) {
                int due = n == 2 && j == 2 ? -1 : words[j];
                check.due("after " + n + ", word " + j, due, p.wordOf(6, 8, j));
            }
            check.due("none above " + n, -1, p.wordOf(6, 8, n + 1));
        }
        check.due("six", 6, p.words(6, 8));
        check.due("degree", 8, p.degree(6));
    }

    private void zerosAtTheTop() {
        sentences.promise(3, "(0s at the top count among the 6 that may come, but are none of its words)");
        for (int n = 0; n <= 6; n++) {
            BigPolys p = new BigPolys();
            p.coefficient(1, 4, -1);
            for (int j = 0; j < 6; j++) {
                check.due("word " + j, true, p.word(j < n ? 9 : 0));
                check.due("its words", Math.min(n, j + 1), p.words(1, 4));
                check.due("its sign", n == 0 ? 0 : -1, p.signOf(1, 4));
            }
            check.due("a seventh, 0", false, p.word(0));
            check.due("a seventh", false, p.word(1));
            check.due("its words", n, p.words(1, 4));
            check.due("none at " + n, -1, p.wordOf(1, 4, n));
            check.due("its degree", n == 0 ? -1 : 4, p.degree(1));
        }
        BigPolys p = new BigPolys();
        p.coefficient(0, 0, 1);
        p.word(5);
        p.word(0);
        p.word(0);
        Polys.put(p, 1, 5);
        check.due("same as without them", true, p.same(0, 1));
    }

    private void zerosBetween() {
        sentences.promise(3, "(0s at the top count among the 6 that may come, but are none of its words)");
        for (int zeros = 1; zeros <= 5; zeros++) {
            BigPolys p = with(poly(FULL.negate()));
            p.coefficient(0, 0, 1);
            for (int j = 0; j < zeros; j++) {
                check.due("a 0", true, p.word(0));
                check.due("no word yet", 0, p.words(0, 0));
                check.due("no degree yet", -1, p.degree(0));
            }
            check.due("the next", true, p.word(3));
            check.due("all are words now", zeros + 1, p.words(0, 0));
            for (int j = 0; j < zeros; j++) {
                check.due("a 0 below", 0, p.wordOf(0, 0, j));
            }
            check.due("the highest", 3, p.wordOf(0, 0, zeros));
        }
    }

    private void noneIs() {
        sentences.promise(3, "False: none is");
        BigPolys p = new BigPolys();
        check.due("at first", false, p.word(1));
        p.coefficient(0, 0, 1);
        p.coefficient(0, 9, 1);
        check.due("after a refused one", false, p.word(1));
        p.coefficient(0, 0, 1);
        p.add(0, 1, 2, false);
        check.due("after a result", false, p.word(1));
        check.due("nothing came", -1, p.degree(0));
    }

    private void belowZero() {
        sentences.promise(3, "it is below 0");
        BigPolys p = new BigPolys();
        p.coefficient(0, 0, 1);
        for (int j = 0; j < 6; j++) {
            for (int wrong : BELOW_ZERO) {
                check.due("word " + wrong, false, p.word(wrong));
            }
            check.due("it does not count", true, p.word(j == 0 ? 0 : MOST));
        }
        check.due("six", 6, p.words(0, 0));
        check.due("0 is not below 0", 0, p.wordOf(0, 0, 0));
        for (int wrong : BELOW_ZERO) {
            check.due("below 0 and a seventh", false, p.word(wrong));
            check.due("below 0 and none at hand", false, new BigPolys().word(wrong));
        }
    }

    private void thereAreSix() {
        sentences.promise(3, "there are 6");
        BigPolys p = new BigPolys();
        p.coefficient(0, 0, 1);
        for (int j = 0; j < 6; j++) {
            check.due("word " + j, true, p.word(j + 1));
        }
        String six = Polys.read(p, 0);
        for (int turn = 0; turn < 3; turn++) {
            check.due("a seventh", false, p.word(7));
            check.due("a seventh", false, p.word(0));
        }
        check.text("it stays", six, Polys.read(p, 0));
        check.due("another", true, p.coefficient(0, 1, 1));
        check.due("another", true, p.word(7));
        check.due("the same again", true, p.coefficient(0, 0, 1));
        check.due("the same again", true, p.word(7));
        holds("both", p, 0, 7, 7);
    }
}
