import java.math.BigInteger;

/** Promises 12 to 15: signs and real roots at their edges. */
final class RootEdges extends Edges {
    /** (t - 1) (t - 2) .. (t - 8). */
    private static final BigInteger[] EIGHT =
            poly(40320, -109584, 118124, -67284, 22449, -4536, 546, -36, 1);

    RootEdges(Check check, Sentences sentences) {
        super(check, sentences);
    }

    @Override
    void run() {
        signs();
        signsAtTheEnds();
        signInNoRegister();
        denIsZero();
        different();
        aboveLow();
        upToHigh();
        rootsAtTheEnds();
        rootsInNoRegister();
        rootsOfZero();
        lowAboveHigh();
        inAll();
        allInNoRegister();
        allOfZero();
        floors();
        floorsNextToWholes();
        leastHasZero();
        placeInNoRegister();
        placeOfZero();
        noSuchRoot();
        notAnInt();
        leastInt();
    }

    /** den t - num, whose root is num / den. */
    private static BigInteger[] line(long num, long den) {
        return poly(-num, den);
    }

    private static BigInteger[] line(BigInteger num, BigInteger den) {
        return poly(num.negate(), den);
    }

    private static BigInteger[] times(BigInteger[]... factors) {
        BigInteger[] result = poly(1);
        for (BigInteger[] factor : factors) {
            result = Model.product(result, factor);
        }
        return result;
    }

    private void signs() {
        sentences.promise(12, "The sign of x at num / den: -1, 0, 1");
        BigPolys p = with(line(3, 2));
        check.due("3/2", 0, p.sign(0, 3, 2));
        check.due("6/4", 0, p.sign(0, 6, 4));
        check.due("-3/-2", 0, p.sign(0, -3, -2));
        check.due("3/-2", -1, p.sign(0, 3, -2));
        check.due("-3/2", -1, p.sign(0, -3, 2));
        check.due("4/2", 1, p.sign(0, 4, 2));
        check.due("-4/-2", 1, p.sign(0, -4, -2));
        check.due("0/1", -1, p.sign(0, 0, 1));
        check.due("0/-1", -1, p.sign(0, 0, -1));
        p = with(0, 0, 1);
        check.due("even degree at -1/2", 1, p.sign(0, -1, 2));
        check.due("even degree at 1/-2", 1, p.sign(0, 1, -2));
        check.due("0 at 0", 0, p.sign(0, 0, -7));
        p = with(-9);
        check.due("a number", -1, p.sign(0, 5, -3));
        check.due("of 0", 0, p.sign(7, 5, -3));
        for (int degree = 0; degree <= 8; degree++) {
            p = with(Polys.term(ONE, degree));
            check.due("t^" + degree + " at -1/3", degree % 2 == 0 ? 1 : -1, p.sign(0, -1, 3));
            check.due("t^" + degree + " at 1/-3", degree % 2 == 0 ? 1 : -1, p.sign(0, 1, -3));
            check.due("t^" + degree + " at -1/-3", 1, p.sign(0, -1, -3));
        }
    }

    private void signsAtTheEnds() {
        sentences.promise(12, "The sign of x at num / den: -1, 0, 1");
        for (int num : new int[] {LEAST, LEAST + 1, -1, 1, MOST - 1, MOST}) {
            for (int den : new int[] {LEAST, LEAST + 1, -1, 1, MOST - 1, MOST}) {
                BigPolys p = with(times(line(num, den), line(num, den)), line(num, den));
                check.due("at its root " + num + "/" + den, 0, p.sign(0, num, den));
                check.due("at its root " + num + "/" + den, 0, p.sign(1, num, den));
                Polys.put(p, 2, 1);
                p.add(3, 0, 2, false);
                p.add(4, 0, 2, true);
                check.due("above 0 at " + num + "/" + den, 1, p.sign(3, num, den));
                check.due("below 0 at " + num + "/" + den, -1, p.sign(4, num, den));
            }
        }
        BigInteger[] full = {FULL, FULL, FULL, FULL, FULL, FULL, FULL, FULL, FULL};
        check.due("all full", 1, with(full).sign(0, LEAST, MOST));
        check.due("all full", 1, with(full).sign(0, LEAST, 1));
        full[8] = FULL.negate();
        check.due("all full but one", -1, with(full).sign(0, LEAST, 1));
        check.due("all full but one", 1, with(full).sign(0, 1, LEAST));
    }

    private void signInNoRegister() {
        sentences.promise(12, "2: no such register");
        BigPolys p = with(1, 1);
        for (int wrong : NO_REGISTERS) {
            check.due("register " + wrong, 2, p.sign(wrong, 1, 1));
            check.due("register " + wrong + ", den 0", 2, p.sign(wrong, 1, 0));
        }
        for (int r = 0; r <= 7; r++) {
            check.due("register " + r, r == 0 ? 1 : 0, p.sign(r, 1, 1));
        }
    }

    private void denIsZero() {
        sentences.promise(12, "den is 0");
        BigPolys p = with(1, 1);
        for (int num : new int[] {LEAST, -1, 0, 1, MOST}) {
            check.due(num + "/0", 2, p.sign(0, num, 0));
            check.due(num + "/0 of 0", 2, p.sign(7, num, 0));
        }
        check.due("of a number", 2, with(5).sign(0, 1, 0));
    }

    private void different() {
        sentences.promise(13, "How many different real roots x has");
        // (t - 1)^3 (t + 1)^2 (t^2 + 1)
        BigInteger[] x = times(line(1, 1), line(1, 1), line(1, 1), line(-1, 1), line(-1, 1), poly(1, 0, 1));
        BigPolys p = with(x);
        check.due("two", 2, p.roots(0, -5, 5));
        check.due("one", 1, p.roots(0, 0, 5));
        check.due("one", 1, p.roots(0, -5, 0));
        check.due("none", 0, p.roots(0, 1, 5));
        check.due("none", 0, p.roots(0, -5, -2));
        check.due("eight", 8, with(EIGHT).roots(0, 0, 8));
        check.due("eightfold", 1, with(0, 0, 0, 0, 0, 0, 0, 0, 5).roots(0, -1, 0));
        check.due("between two wholes", 3, with(times(line(1, 2), line(1, 3), line(2, 3))).roots(0, 0, 1));
        check.due("none of a number", 0, with(5).roots(0, LEAST, MOST));
        check.due("none that is real", 0, with(1, 0, 1).roots(0, LEAST, MOST));
    }

    private void aboveLow() {
        sentences.promise(13, "above low");
        BigPolys p = with(EIGHT);
        for (int low = 0; low <= 9; low++) {
            check.due("above " + low, Math.max(0, 8 - low), p.roots(0, low, 9));
        }
        p = with(times(line(5, 1), line(5, 1), line(5, 1)));
        check.due("a threefold one above 4", 1, p.roots(0, 4, 6));
        check.due("a threefold one above 5", 0, p.roots(0, 5, 6));
        p = with(times(line(5, 1), line(11, 2)));
        check.due("a root at low and one above", 1, p.roots(0, 5, 6));
    }

    private void upToHigh() {
        sentences.promise(13, "up to high");
        BigPolys p = with(EIGHT);
        for (int high = 0; high <= 9; high++) {
            check.due("up to " + high, Math.min(8, high), p.roots(0, 0, high));
        }
        p = with(times(line(5, 1), line(5, 1)));
        check.due("a twofold one up to 5", 1, p.roots(0, 4, 5));
        check.due("a twofold one up to 4", 0, p.roots(0, 3, 4));
        p = with(times(line(5, 1), line(9, 2)));
        check.due("a root at high and one below", 2, p.roots(0, 4, 5));
    }

    private void rootsAtTheEnds() {
        sentences.promise(13, "above low");
        BigPolys p = with(times(line(LEAST, 1), line(MOST, 1)), times(line(LEAST - 1L, 1), line(MOST + 1L, 1)));
        check.due("not the least int, but the greatest", 1, p.roots(0, LEAST, MOST));
        check.due("not the least int", 0, p.roots(0, LEAST, MOST - 1));
        check.due("the greatest", 1, p.roots(0, MOST - 1, MOST));
        check.due("the greatest to itself", 0, p.roots(0, MOST, MOST));
        check.due("the least to itself", 0, p.roots(0, LEAST, LEAST));
        check.due("none beyond", 0, p.roots(1, LEAST, MOST));
        check.due("just above the least", 1, with(line(2L * LEAST + 1, 2)).roots(0, LEAST, LEAST + 1));
    }

    private void rootsInNoRegister() {
        sentences.promise(13, "NONE: no such register");
        BigPolys p = with(EIGHT);
        for (int wrong : NO_REGISTERS) {
            check.due("register " + wrong, -1, p.roots(wrong, 0, 9));
            check.due("register " + wrong + ", low above high", -1, p.roots(wrong, 9, 0));
        }
    }

    private void rootsOfZero() {
        sentences.promise(13, "x is 0");
        BigPolys p = with(EIGHT);
        check.due("of 0", -1, p.roots(7, 0, 9));
        check.due("of 0, low is high", -1, p.roots(7, 0, 0));
        p.add(0, 0, 0, true);
        check.due("of what became 0", -1, p.roots(0, 0, 9));
    }

    private void lowAboveHigh() {
        sentences.promise(13, "low above high");
        BigPolys p = with(EIGHT);
        check.due("one above", -1, p.roots(0, 3, 2));
        check.due("the ends", -1, p.roots(0, MOST, LEAST));
        check.due("at the top", -1, p.roots(0, MOST, MOST - 1));
        check.due("at the bottom", -1, p.roots(0, LEAST + 1, LEAST));
        check.due("equal at a root", 0, p.roots(0, 3, 3));
        check.due("equal elsewhere", 0, p.roots(0, 30, 30));
        check.due("of a number", -1, with(5).roots(0, 1, 0));
        check.due("of a number, equal", 0, with(5).roots(0, 0, 0));
    }

    private void inAll() {
        sentences.promise(14, "How many different real roots x has in all");
        check.due("a number", 0, with(-5).allRoots(0));
        check.due("degree 1", 1, with(-5, 3).allRoots(0));
        check.due("no real one", 0, with(1, 0, 0, 0, 0, 0, 0, 0, 1).allRoots(0));
        check.due("two of eight", 2, with(-1, 0, 0, 0, 0, 0, 0, 0, 1).allRoots(0));
        check.due("all eight", 8, with(EIGHT).allRoots(0));
        check.due("eightfold", 1, with(1, -8, 28, -56, 70, -56, 28, -8, 1).allRoots(0));
        check.due("at 0", 1, with(0, 0, 3).allRoots(0));
        check.due("two twofold", 2, with(times(poly(1, -2, 1), poly(1, 2, 1))).allRoots(0));
        BigInteger far = Polys.two(92);
        check.due("far off on both sides", 3, with(times(line(far, ONE), line(far.negate(), ONE), line(0, 1))).allRoots(0));
        check.due("the farthest", 1, with(line(FULL, ONE)).allRoots(0));
        check.due("the nearest to 0", 1, with(line(ONE, FULL)).allRoots(0));
        BigInteger k = Polys.two(60);
        check.due("two close ones", 2, with(times(line(k, k.add(ONE)), line(k.add(ONE), k))).allRoots(0));
    }

    private void allInNoRegister() {
        sentences.promise(14, "NONE: no such register");
        BigPolys p = with(EIGHT);
        for (int wrong : NO_REGISTERS) {
            check.due("register " + wrong, -1, p.allRoots(wrong));
        }
    }

    private void allOfZero() {
        sentences.promise(14, "x is 0");
        BigPolys p = with(EIGHT);
        check.due("of 0", -1, p.allRoots(7));
        p.multiply(0, 0, 7);
        check.due("of what became 0", -1, p.allRoots(0));
    }

    private void floors() {
        sentences.promise(15, "The greatest whole number not above the k-th real root of x");
        for (int n = -6; n <= 6; n++) {
            check.due("a whole root " + n, n, with(line(n, 1)).place(0, 0));
            check.due(n + " / 2", Math.floorDiv(n, 2), with(line(n, 2)).place(0, 0));
            check.due(n + " / -3", Math.floorDiv(n, -3), with(line(n, -3)).place(0, 0));
        }
        BigPolys p = with(-2, 0, 1);
        check.due("-1.41..", -2, p.place(0, 0));
        check.due("1.41..", 1, p.place(0, 1));
        p = with(times(line(1, 3), line(1, 2), line(-1, 3), line(-1, 2)));
        check.due("-1/2", -1, p.place(0, 0));
        check.due("-1/3", -1, p.place(0, 1));
        check.due("1/3", 0, p.place(0, 2));
        check.due("1/2", 0, p.place(0, 3));
    }

    private void floorsNextToWholes() {
        sentences.promise(15, "The greatest whole number not above the k-th real root of x");
        BigInteger k = Polys.two(62);
        for (int n : new int[] {-1000000007, -3, -1, 0, 1, 2, 1000000007}) {
            BigInteger at = k.multiply(BigInteger.valueOf(n));
            BigPolys p = with(times(line(at.subtract(ONE), k), line(at.add(ONE), k)));
            check.due("just below " + n, n - 1L, p.place(0, 0));
            check.due("just above " + n, n, p.place(0, 1));
        }
    }

    private void leastHasZero() {
        sentences.promise(15, "(the least one has 0)");
        BigPolys p = with(EIGHT);
        for (int k = 0; k < 8; k++) {
            check.due("root " + k, k + 1, p.place(0, k));
        }
        p = with(times(line(7, 1), line(7, 1), line(-7, 1), line(-7, 1), line(-7, 1)));
        check.due("a threefold one", -7, p.place(0, 0));
        check.due("a twofold one", 7, p.place(0, 1));
        p = with(Model.scaled(EIGHT, BigInteger.valueOf(-3)));
        check.due("turned, the least", 1, p.place(0, 0));
        check.due("turned, the greatest", 8, p.place(0, 7));
    }

    private void placeInNoRegister() {
        sentences.promise(15, "Long.MIN_VALUE: no such register");
        BigPolys p = with(EIGHT);
        for (int wrong : NO_REGISTERS) {
            check.due("register " + wrong, NOWHERE, p.place(wrong, 0));
        }
    }

    private void placeOfZero() {
        sentences.promise(15, "x is 0");
        BigPolys p = with(EIGHT);
        check.due("of 0", NOWHERE, p.place(7, 0));
        p.add(0, 0, 0, true);
        check.due("of what became 0", NOWHERE, p.place(0, 0));
    }

    private void noSuchRoot() {
        sentences.promise(15, "no such root");
        BigPolys p = with(EIGHT, poly(1, 0, 1));
        for (int k : new int[] {-1, LEAST, 8, 9, MOST}) {
            check.due("root " + k, NOWHERE, p.place(0, k));
        }
        check.due("no real one", NOWHERE, p.place(1, 0));
        check.due("a number", NOWHERE, with(5).place(0, 0));
        p = with(4, -4, -3, 2, 1);
        check.due("(t + 2)^2 (t - 1)^2 has two different ones", 1, p.place(0, 1));
        check.due("and no third", NOWHERE, p.place(0, 2));
    }

    private void notAnInt() {
        sentences.promise(15, "that number is not an int");
        check.due("the greatest", MOST, with(line(MOST, 1)).place(0, 0));
        check.due("half above it", MOST, with(line(2L * MOST + 1, 2)).place(0, 0));
        BigInteger k = Polys.two(100);
        BigInteger end = k.multiply(BigInteger.valueOf(MOST + 1L));
        check.due("just below 2^31", MOST, with(line(end.subtract(ONE), k)).place(0, 0));
        check.due("2^31", NOWHERE, with(line(MOST + 1L, 1)).place(0, 0));
        check.due("just above 2^31", NOWHERE, with(line(end.add(ONE), k)).place(0, 0));
        check.due("one below the least", NOWHERE, with(line(LEAST - 1L, 1)).place(0, 0));
        check.due("half below the least", NOWHERE, with(line(2L * LEAST - 1, 2)).place(0, 0));
        check.due("far above", NOWHERE, with(line(FULL, ONE)).place(0, 0));
        check.due("far below", NOWHERE, with(line(FULL.negate(), ONE)).place(0, 0));
        BigPolys p = with(times(line(1L << 33, 1), line(-(1L << 33), 1), line(5, 1), line(-5, 1)));
        check.due("below all ints", NOWHERE, p.place(0, 0));
        check.due("counted all the same", -5, p.place(0, 1));
        check.due("counted all the same", 5, p.place(0, 2));
        check.due("above all ints", NOWHERE, p.place(0, 3));
        check.due("none", NOWHERE, p.place(0, 4));
    }

    private void leastInt() {
        sentences.promise(15, "or is the least one");
        check.due("the least", NOWHERE, with(line(LEAST, 1)).place(0, 0));
        check.due("half above it", NOWHERE, with(line(2L * LEAST + 1, 2)).place(0, 0));
        BigInteger k = Polys.two(100);
        BigInteger end = k.multiply(BigInteger.valueOf(LEAST + 1L));
        check.due("just below the next", NOWHERE, with(line(end.subtract(ONE), k)).place(0, 0));
        check.due("the next", LEAST + 1L, with(line(LEAST + 1L, 1)).place(0, 0));
        check.due("just above the next", LEAST + 1L, with(line(end.add(ONE), k)).place(0, 0));
        BigPolys p = with(times(line(LEAST, 1), line(LEAST + 1L, 1), line(MOST, 1), line(MOST + 1L, 1)));
        check.due("the least", NOWHERE, p.place(0, 0));
        check.due("the next", LEAST + 1L, p.place(0, 1));
        check.due("the greatest", MOST, p.place(0, 2));
        check.due("2^31", NOWHERE, p.place(0, 3));
    }
}
