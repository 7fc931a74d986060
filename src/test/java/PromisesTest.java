import java.math.BigInteger;

/** Each promise with ordinary inputs, the document's edges and wrong inputs; the answers are written out. */
public final class PromisesTest {
    private static final int LEAST = Polys.LEAST;
    private static final int MOST = Polys.MOST;
    private static final long NOWHERE = Polys.NOWHERE;
    private static final int[] WRONG = {-1, 8, LEAST, MOST};
    private static final BigInteger FULL = Polys.FULL;

    private static final Check check = new Check();

    public static void main(String[] args) {
        newObject();
        coefficient();
        word();
        wordZeros();
        hand();
        add();
        multiply();
        derive();
        shift();
        remainder();
        quotient();
        gcd();
        once();
        largerThanTheirMultiples();
        sign();
        roots();
        allRoots();
        place();
        placeEdges();
        reading();
        same();
        wrongRegisters();
        check.end();
    }

    private static BigInteger[] poly(long... low) {
        return Polys.poly(low);
    }

    private static void put(BigPolys p, int r, BigInteger... low) {
        Polys.put(p, r, low);
    }

    private static void put(BigPolys p, int r, long... low) {
        put(p, r, poly(low));
    }

    private static String read(BigPolys p, int r) {
        return Polys.read(p, r);
    }

    private static String text(BigInteger... low) {
        return Polys.text(low);
    }

    private static void holds(String call, BigPolys p, int r, long... low) {
        check.text(call, text(poly(low)), read(p, r));
    }

    private static void newObject() {
        BigPolys p = new BigPolys();
        check.due("word of a new one", false, p.word(1));
        for (int r = 0; r < 8; r++) {
            check.due("degree of a new one", -1, p.degree(r));
            check.due("same of a new one", true, p.same(r, 0));
            for (int i = 0; i <= 8; i++) {
                check.due("sign of a new one", 0, p.signOf(r, i));
                check.due("words of a new one", 0, p.words(r, i));
                check.due("word of a new one", -1, p.wordOf(r, i, 0));
            }
        }
    }

    private static void coefficient() {
        BigPolys p = new BigPolys();
        put(p, 3, 1, 2, 3);
        check.due("coefficient makes 0", true, p.coefficient(3, 2, 1));
        holds("coefficient makes 0", p, 3, 1, 2);
        check.due("degree then", 1, p.degree(3));
        check.due("coefficient 1", true, p.coefficient(3, 1, 1));
        check.due("coefficient 0", true, p.coefficient(3, 0, 1));
        check.due("degree of 0", -1, p.degree(3));
        check.due("sign 0", true, p.coefficient(7, 8, 0));
        check.due("word", true, p.word(5));
        check.due("sign 0 is plus", 1, p.signOf(7, 8));
        check.due("least sign", true, p.coefficient(7, 0, LEAST));
        check.due("word", true, p.word(5));
        check.due("least sign is minus", -1, p.signOf(7, 0));
        holds("by signs", p, 7, -5, 0, 0, 0, 0, 0, 0, 0, 5);
        for (int wrong : WRONG) {
            check.due("at hand", true, p.coefficient(0, 0, 1));
            check.due("wrong register", false, p.coefficient(wrong, 0, 1));
            check.due("none at hand then", false, p.word(1));
        }
        for (int wrong : new int[] {-1, 9, LEAST, MOST}) {
            check.due("at hand", true, p.coefficient(0, 0, 1));
            check.due("wrong power", false, p.coefficient(0, wrong, 1));
            check.due("none at hand then", false, p.word(1));
        }
        check.due("nothing came", -1, p.degree(0));
    }

    private static void word() {
        BigPolys p = new BigPolys();
        p.coefficient(2, 4, -3);
        for (int j = 0; j < 6; j++) {
            check.due("below 0", false, p.word(-1));
            check.due("least", false, p.word(LEAST));
            check.due("word", true, p.word(j == 5 ? MOST : j + 1));
            check.due("words", j + 1, p.words(2, 4));
        }
        check.due("a seventh", false, p.word(0));
        check.due("a seventh", false, p.word(1));
        check.due("sign", -1, p.signOf(2, 4));
        for (int j = 0; j < 6; j++) {
            check.due("wordOf", j == 5 ? MOST : j + 1, p.wordOf(2, 4, j));
        }
        check.due("begun anew", true, p.coefficient(2, 4, 1));
        check.due("begun anew", 0, p.words(2, 4));
        check.due("begun anew", true, p.word(9));
        check.due("begun anew", 1, p.words(2, 4));
        check.due("begun anew", 9, p.wordOf(2, 4, 0));
    }

    private static void wordZeros() {
        BigPolys p = new BigPolys();
        p.coefficient(0, 1, -1);
        for (int j = 0; j < 5; j++) {
            check.due("a 0", true, p.word(0));
            check.due("no sign yet", 0, p.signOf(0, 1));
            check.due("no word yet", 0, p.words(0, 1));
            check.due("no degree yet", -1, p.degree(0));
        }
        check.due("the sixth", true, p.word(1));
        check.due("six words", 6, p.words(0, 1));
        check.due("a 0 below", 0, p.wordOf(0, 1, 4));
        check.due("degree", 1, p.degree(0));
        check.due("a seventh", false, p.word(1));
        p.coefficient(0, 1, -1);
        p.word(7);
        for (int j = 0; j < 5; j++) {
            check.due("a 0 at the top", true, p.word(0));
            check.due("is none of its words", 1, p.words(0, 1));
        }
        check.due("but counts", false, p.word(1));
        put(p, 1, 0, -7);
        check.due("same as without", true, p.same(0, 1));
    }

    private static void hand() {
        BigPolys p = new BigPolys();
        put(p, 1, 1, 1);
        p.coefficient(0, 0, 1);
        check.due("a result elsewhere", 0, p.add(2, 1, 1, false));
        check.due("leaves it at hand", true, p.word(4));
        check.due("no result", 1, p.add(0, 1, 8, false));
        check.due("leaves it at hand", true, p.word(4));
        check.due("no quotient", 2, p.quotient(0, 1, 7));
        check.due("leaves it at hand", true, p.word(4));
        check.due("it is an operand", 0, p.add(2, 0, 0, false));
        check.due("stays at hand", true, p.word(4));
        check.due("a result", 0, p.add(0, 1, 1, false));
        check.due("none at hand", false, p.word(4));
        put(p, 3, 0, 0, 0, 0, 0, 1);
        p.coefficient(3, 0, 1);
        check.due("no room", 3, p.multiply(3, 3, 3));
        check.due("leaves it at hand", true, p.word(4));
        holds("and the register", p, 3, 4, 0, 0, 0, 0, 1);
        check.due("a result of each kind", 0, p.gcd(3, 3, 3));
        check.due("none at hand", false, p.word(4));
    }

    private static void add() {
        BigPolys p = new BigPolys();
        put(p, 0, 1, -2, 3);
        put(p, 1, 5, 2);
        check.due("add", 0, p.add(2, 0, 1, false));
        holds("add", p, 2, 6, 0, 3);
        check.due("minus", 0, p.add(2, 0, 1, true));
        holds("minus", p, 2, -4, -4, 3);
        check.due("minus turned", 0, p.add(2, 1, 0, true));
        holds("minus turned", p, 2, 4, 4, -3);
        check.due("into an operand", 0, p.add(0, 0, 0, true));
        check.due("degree falls", -1, p.degree(0));
        put(p, 3, FULL, BigInteger.ONE);
        put(p, 4, BigInteger.ONE);
        check.due("no room", 3, p.add(3, 3, 4, false));
        check.text("it stays", text(FULL, BigInteger.ONE), read(p, 3));
        check.due("room", 0, p.add(3, 3, 4, true));
        check.text("one less", text(FULL.subtract(BigInteger.ONE), BigInteger.ONE), read(p, 3));
        check.due("room again", 0, p.add(3, 3, 4, false));
        put(p, 5, FULL.negate());
        check.due("no room below", 3, p.add(5, 5, 4, true));
        check.due("out of two", 0, p.add(5, 5, 3, false));
        holds("they cancel", p, 5, 0, 1);
    }

    private static void multiply() {
        BigPolys p = new BigPolys();
        put(p, 0, 1, -2, 3);
        put(p, 1, 5, 2);
        check.due("multiply", 0, p.multiply(0, 0, 1));
        holds("multiply", p, 0, 5, -8, 11, 6);
        check.due("by 0", 0, p.multiply(2, 0, 7));
        check.due("by 0", -1, p.degree(2));
        put(p, 3, 0, 0, 0, 0, 1);
        check.due("degree 8", 0, p.multiply(4, 3, 3));
        check.due("degree 8", 8, p.degree(4));
        check.due("degree 9", 3, p.multiply(4, 4, 1));
        holds("it stays", p, 4, 0, 0, 0, 0, 0, 0, 0, 0, 1);
        check.due("degree 8 by 0", 0, p.multiply(4, 4, 7));
        BigInteger half = BigInteger.ONE.shiftLeft(93);
        put(p, 5, half);
        check.due("187 bits", 3, p.multiply(6, 5, 5));
        put(p, 5, half.subtract(BigInteger.ONE).negate());
        check.due("186 bits", 0, p.multiply(5, 5, 5));
        check.text("186 bits", text(half.subtract(BigInteger.ONE).pow(2)), read(p, 5));
    }

    private static void derive() {
        BigPolys p = new BigPolys();
        put(p, 0, 9, 1, -2, 3, 0, 0, 0, 0, -1);
        check.due("derive", 0, p.derive(0, 0));
        holds("derive", p, 0, 1, -4, 9, 0, 0, 0, 0, -8);
        put(p, 1, 9);
        check.due("of a number", 0, p.derive(2, 1));
        check.due("of a number", -1, p.degree(2));
        check.due("of 0", 0, p.derive(2, 2));
        put(p, 3, BigInteger.ONE, BigInteger.ONE, FULL);
        check.due("no room", 3, p.derive(3, 3));
        check.due("it stays", 2, p.degree(3));
    }

    private static void shift() {
        BigPolys p = new BigPolys();
        put(p, 0, 1, -2, 3);
        check.due("shift", 0, p.shift(1, 0, 2));
        holds("3 (t+2)^2 - 2 (t+2) + 1", p, 1, 9, 10, 3);
        check.due("back", 0, p.shift(1, 1, -2));
        check.due("back", true, p.same(0, 1));
        check.due("by 0", 0, p.shift(1, 1, 0));
        check.due("by 0", true, p.same(0, 1));
        check.due("of 0", 0, p.shift(2, 7, 5));
        check.due("of 0", -1, p.degree(2));
        put(p, 3, 0, 1);
        check.due("by the least", 0, p.shift(4, 3, LEAST));
        holds("by the least", p, 4, LEAST, 1);
        put(p, 5, 0, 0, 0, 0, 0, 0, 0, 0, 1);
        check.due("no room", 3, p.shift(5, 5, LEAST));
        holds("it stays", p, 5, 0, 0, 0, 0, 0, 0, 0, 0, 1);
        put(p, 6, 0, 0, 0, 0, 0, 0, 1);
        check.due("187 bits", 3, p.shift(6, 6, LEAST));
        check.due("186 bits", 0, p.shift(6, 6, MOST));
        check.due("186 bits", 6, p.words(6, 0));
    }

    private static void remainder() {
        BigPolys p = new BigPolys();
        put(p, 0, 1, 1, 1);
        put(p, 1, 3, -2);
        check.due("remainder", 0, p.remainder(2, 0, 1));
        holds("4 x by y: at 3/2, 4 times 19/4", p, 2, 19);
        put(p, 0, 1, 1, 1, 1);
        check.due("odd power", 0, p.remainder(2, 0, 1));
        holds("-8 x by y: at 3/2, -8 times 65/8", p, 2, -65);
        check.due("lower degree", 0, p.remainder(3, 1, 0));
        check.due("lower degree", true, p.same(1, 3));
        check.due("of 0", 0, p.remainder(3, 7, 0));
        check.due("of 0", -1, p.degree(3));
        put(p, 4, -6);
        check.due("by a number", 0, p.remainder(3, 0, 4));
        check.due("by a number", -1, p.degree(3));
        check.due("by 0", 2, p.remainder(0, 0, 7));
        check.due("0 by 0", 2, p.remainder(0, 7, 7));
        holds("it stays", p, 0, 1, 1, 1, 1);
        put(p, 5, 0, 0, 0, 1);
        put(p, 6, 1, 0, 2);
        check.due("the power is whole also where terms are 0", 0, p.remainder(6, 5, 6));
        holds("4 t^3 by 2 t^2 + 1", p, 6, 0, -2);
        put(p, 0, 1, 0, 0, 0, 1);
        put(p, 1, 0, 0, 3);
        check.due("gapped", 0, p.remainder(0, 0, 1));
        holds("27 (t^4 + 1) by 3 t^2", p, 0, 27);
        put(p, 2, BigInteger.ONE, FULL);
        put(p, 3, 1, 0, 0, 1);
        check.due("no room", 3, p.remainder(3, 3, 2));
        holds("it stays", p, 3, 1, 0, 0, 1);
    }

    private static void quotient() {
        BigPolys p = new BigPolys();
        put(p, 0, -6, -1, 2);
        put(p, 1, 3, 2);
        check.due("quotient", 0, p.quotient(2, 0, 1));
        holds("quotient", p, 2, -2, 1);
        put(p, 1, 3, 1);
        check.due("a rest", 2, p.quotient(2, 0, 1));
        put(p, 1, 6, 4);
        check.due("not whole", 2, p.quotient(2, 0, 1));
        holds("it stays", p, 2, -2, 1);
        put(p, 1, 0, 4);
        check.due("not whole at once", 2, p.quotient(2, 0, 1));
        check.due("higher degree", 2, p.quotient(2, 2, 0));
        check.due("by 0", 2, p.quotient(2, 0, 7));
        check.due("0 by 0", 2, p.quotient(2, 7, 7));
        check.due("0 by x", 0, p.quotient(3, 7, 0));
        check.due("0 by x", -1, p.degree(3));
        check.due("by itself", 0, p.quotient(0, 0, 0));
        holds("by itself", p, 0, 1);
        put(p, 4, 6, -9);
        put(p, 5, -3);
        check.due("by a number", 0, p.quotient(4, 4, 5));
        holds("by a number", p, 4, -2, 3);
        put(p, 5, 2);
        check.due("by a number", 2, p.quotient(4, 4, 5));
        put(p, 6, FULL, FULL, FULL, FULL, FULL, FULL, FULL, FULL, FULL);
        put(p, 5, FULL, BigInteger.ONE);
        check.due("ever larger, and no q", 2, p.quotient(6, 6, 5));
        put(p, 5, FULL);
        check.due("full", 0, p.quotient(6, 6, 5));
        holds("full", p, 6, 1, 1, 1, 1, 1, 1, 1, 1, 1);
    }

    private static void gcd() {
        BigPolys p = new BigPolys();
        put(p, 0, 6, -12, 6);
        put(p, 1, 4, 0, -4);
        check.due("gcd", 0, p.gcd(2, 0, 1));
        holds("t - 1, above 0", p, 2, -1, 1);
        check.due("turned", 0, p.gcd(2, 1, 0));
        holds("turned", p, 2, -1, 1);
        check.due("with 0", 0, p.gcd(2, 0, 7));
        holds("with 0", p, 2, 1, -2, 1);
        check.due("0 with", 0, p.gcd(2, 7, 1));
        holds("0 with", p, 2, -1, 0, 1);
        check.due("with itself", 0, p.gcd(1, 1, 1));
        holds("with itself", p, 1, -1, 0, 1);
        check.due("0 with 0", 0, p.gcd(1, 7, 7));
        check.due("0 with 0", -1, p.degree(1));
        put(p, 3, -4);
        put(p, 4, 6);
        check.due("numbers", 0, p.gcd(5, 3, 4));
        holds("numbers", p, 5, 1);
        check.due("number with 0", 0, p.gcd(5, 3, 7));
        holds("number with 0", p, 5, 1);
        check.due("number with polynomial", 0, p.gcd(5, 0, 4));
        holds("number with polynomial", p, 5, 1);
        put(p, 3, 1, 1);
        put(p, 4, 2, 1);
        check.due("none in common", 0, p.gcd(5, 3, 4));
        holds("none in common", p, 5, 1);
        put(p, 3, -5, 2, 8, -3, -3, 0, 1, 0, 1);
        put(p, 4, 21, -9, -4, 0, 5, 0, 3);
        check.due("Knuth's pair", 0, p.gcd(5, 3, 4));
        holds("Knuth's pair", p, 5, 1);
    }

    private static void once() {
        BigPolys p = new BigPolys();
        put(p, 0, -4, 0, 12, -8, 0);
        // -4 (t - 1)^2 (2 t + 1)
        check.due("once", 0, p.once(1, 0));
        holds("once", p, 1, -1, -1, 2);
        put(p, 0, 1, 0, 3, 0, 3, 0, 1);
        check.due("complex ones", 0, p.once(0, 0));
        holds("complex ones", p, 0, 1, 0, 1);
        put(p, 0, 0, 0, 0, 0, 0, 0, 0, 0, -7);
        check.due("eight times", 0, p.once(0, 0));
        holds("eight times", p, 0, 0, 1);
        put(p, 0, -30);
        check.due("a number", 0, p.once(0, 0));
        holds("a number", p, 0, 1);
        put(p, 0, 6, -4);
        check.due("degree 1", 0, p.once(0, 0));
        holds("degree 1", p, 0, -3, 2);
        check.due("of 0", 2, p.once(0, 7));
        holds("it stays", p, 0, -3, 2);
    }

    /** Divisors may have larger coefficients than what they divide: then there is no room. */
    private static void largerThanTheirMultiples() {
        BigPolys p = new BigPolys();
        BigInteger c = BigInteger.ONE.shiftLeft(184).add(BigInteger.valueOf(5));
        BigInteger[] hill = Model.product(poly(1, 1, 1, 1), poly(1, 1, 1, 1));
        BigInteger[] large = Model.sum(Model.scaled(hill, c), poly(0, 1), false);
        put(p, 0, Model.product(large, poly(1, -2, 1)));
        put(p, 1, Model.product(large, poly(1, -1, 1)));
        put(p, 2, 1, -2, 1);
        put(p, 3, 5);
        check.due("no room for q", 3, p.quotient(3, 0, 2));
        check.due("no room for the divisor", 3, p.gcd(3, 0, 1));
        holds("it stays", p, 3, 5);
        put(p, 2, 1, 1, 1);
        check.due("2 goes before 3", 2, p.quotient(3, 0, 2));
        BigInteger third = FULL.divide(BigInteger.TWO).subtract(BigInteger.TEN);
        BigInteger[] three = Model.product(Model.product(poly(1, 1, 1), poly(1, 1, 1)), poly(1, 1, 1));
        BigInteger[] simple = Model.sum(Model.scaled(three, third), poly(0, 1), false);
        put(p, 4, Model.product(simple, poly(1, -2, 1)));
        check.due("no room for each once", 3, p.once(3, 4));
        holds("it stays", p, 3, 5);
        check.due("t = 1 and those of the rest", Model.allRoots(Model.product(simple, poly(1, -1))), p.allRoots(4));
        check.due("t = 1", 1, p.roots(4, 0, 1));
    }

    private static void sign() {
        BigPolys p = new BigPolys();
        put(p, 0, 1, -3, 2);
        check.due("at 1/2", 0, p.sign(0, 1, 2));
        check.due("at -1/-2", 0, p.sign(0, -1, -2));
        check.due("at 3/4", -1, p.sign(0, 3, 4));
        check.due("at -3/4", 1, p.sign(0, 3, -4));
        check.due("at 0", 1, p.sign(0, 0, -9));
        check.due("at 1", 0, p.sign(0, LEAST, LEAST));
        check.due("just below 1", -1, p.sign(0, MOST - 1, MOST));
        check.due("just above 1", 1, p.sign(0, MOST, MOST - 1));
        check.due("den 0", 2, p.sign(0, 1, 0));
        check.due("of 0", 0, p.sign(7, LEAST, MOST));
        check.due("of 0, den 0", 2, p.sign(7, 1, 0));
        put(p, 1, LEAST, -1);
        check.due("at the least", 0, p.sign(1, LEAST, 1));
        check.due("odd degree, den below 0", -1, p.sign(1, LEAST, -1));
        put(p, 2, -3);
        check.due("a number", -1, p.sign(2, 5, -7));
        put(p, 3, FULL, FULL, FULL, FULL, FULL, FULL, FULL, FULL.negate(), FULL);
        check.due("large", 1, p.sign(3, LEAST, 1));
        check.due("large", 1, p.sign(3, MOST, LEAST));
    }

    private static void roots() {
        BigPolys p = new BigPolys();
        // (t + 2)^2 (t - 1)^3 (t^2 - 2)
        BigInteger[] left = Model.product(poly(2, 1), poly(2, 1));
        BigInteger[] right = Model.product(poly(1, -2, 1), poly(-1, 1));
        put(p, 0, Model.product(Model.product(left, right), poly(-2, 0, 1)));
        check.due("all", 4, p.roots(0, LEAST, MOST));
        check.due("above -2", 3, p.roots(0, -2, 2));
        check.due("up to -2", 1, p.roots(0, -3, -2));
        check.due("up to 1", 2, p.roots(0, -2, 1));
        check.due("above 1", 1, p.roots(0, 1, 2));
        check.due("none", 0, p.roots(0, 2, MOST));
        check.due("low is high", 0, p.roots(0, 1, 1));
        check.due("low above high", -1, p.roots(0, 2, 1));
        check.due("of 0", -1, p.roots(7, 0, 1));
        put(p, 1, 9);
        check.due("a number", 0, p.roots(1, LEAST, MOST));
        put(p, 2, -(long) LEAST, 1);
        check.due("the least itself", 0, p.roots(2, LEAST, MOST));
        put(p, 2, -(long) MOST, 1);
        check.due("the greatest itself", 1, p.roots(2, MOST - 1, MOST));
        check.due("above the greatest", 0, p.roots(2, MOST, MOST));
    }

    private static void allRoots() {
        BigPolys p = new BigPolys();
        put(p, 0, 1, 0, 1);
        check.due("none", 0, p.allRoots(0));
        put(p, 0, -2, 0, 1);
        check.due("two", 2, p.allRoots(0));
        put(p, 0, 1, -2, 1);
        check.due("twice the same", 1, p.allRoots(0));
        put(p, 0, 0, 0, 0, 0, 0, 0, 0, 0, -1);
        check.due("t^8", 1, p.allRoots(0));
        put(p, 0, 1, 0, 0, 0, 0, 0, 0, 0, -1);
        check.due("1 - t^8", 2, p.allRoots(0));
        put(p, 0, 40320, -109584, 118124, -67284, 22449, -4536, 546, -36, 1);
        check.due("1 .. 8", 8, p.allRoots(0));
        put(p, 0, FULL.negate(), BigInteger.ONE);
        check.due("far off", 1, p.allRoots(0));
        put(p, 0, -9);
        check.due("a number", 0, p.allRoots(0));
        check.due("of 0", -1, p.allRoots(7));
    }

    private static void place() {
        BigPolys p = new BigPolys();
        put(p, 0, 40320, -109584, 118124, -67284, 22449, -4536, 546, -36, 1);
        for (int k = 0; k < 8; k++) {
            check.due("whole roots", k + 1, p.place(0, k));
        }
        check.due("no ninth", NOWHERE, p.place(0, 8));
        check.due("none before the first", NOWHERE, p.place(0, -1));
        check.due("none at the ends", NOWHERE, p.place(0, LEAST));
        check.due("none at the ends", NOWHERE, p.place(0, MOST));
        put(p, 1, 1, -5, 6);
        check.due("1/3", 0, p.place(1, 0));
        check.due("1/2", 0, p.place(1, 1));
        put(p, 1, 1, 5, 6);
        check.due("-1/2", -1, p.place(1, 0));
        check.due("-1/3", -1, p.place(1, 1));
        put(p, 2, 4, -4, -3, 2, 1);
        check.due("(t + 2)^2 (t - 1)^2", -2, p.place(2, 0));
        check.due("each once", 1, p.place(2, 1));
        check.due("no third", NOWHERE, p.place(2, 2));
        put(p, 3, 7);
        check.due("a number", NOWHERE, p.place(3, 0));
        check.due("of 0", NOWHERE, p.place(7, 0));
        put(p, 4, 1, 0, 1);
        check.due("no real one", NOWHERE, p.place(4, 0));
    }

    private static void placeEdges() {
        BigPolys p = new BigPolys();
        long least = LEAST;
        long most = MOST;
        put(p, 0, -least, 1);
        check.due("the least int", NOWHERE, p.place(0, 0));
        put(p, 0, -2 * least - 1, 2);
        check.due("half above the least", NOWHERE, p.place(0, 0));
        put(p, 0, -least - 1, 1);
        check.due("one above the least", least + 1, p.place(0, 0));
        put(p, 0, -least + 1, 1);
        check.due("one below the least", NOWHERE, p.place(0, 0));
        put(p, 0, -most, 1);
        check.due("the greatest", most, p.place(0, 0));
        put(p, 0, -2 * most - 1, 2);
        check.due("half above the greatest", most, p.place(0, 0));
        put(p, 0, -most - 1, 1);
        check.due("one above the greatest", NOWHERE, p.place(0, 0));
        BigInteger distance = BigInteger.ONE.shiftLeft(90);
        put(p, 1, Model.product(poly(-5, 1), new BigInteger[] {distance.pow(2).negate(), BigInteger.ZERO, BigInteger.ONE}));
        check.due("far below", NOWHERE, p.place(1, 0));
        check.due("the middle one", 5, p.place(1, 1));
        check.due("far above", NOWHERE, p.place(1, 2));
    }

    private static void reading() {
        BigPolys p = new BigPolys();
        put(p, 5, BigInteger.ZERO, FULL.negate(), BigInteger.ONE.shiftLeft(31), BigInteger.ZERO);
        check.due("degree", 2, p.degree(5));
        check.due("sign of 0", 0, p.signOf(5, 0));
        check.due("sign below 0", -1, p.signOf(5, 1));
        check.due("sign above 0", 1, p.signOf(5, 2));
        check.due("sign above the degree", 0, p.signOf(5, 8));
        check.due("words of 0", 0, p.words(5, 0));
        check.due("six words", 6, p.words(5, 1));
        check.due("two words", 2, p.words(5, 2));
        check.due("words above the degree", 0, p.words(5, 8));
        check.due("word 0", 0, p.wordOf(5, 2, 0));
        check.due("word 1", 1, p.wordOf(5, 2, 1));
        check.due("word 2", -1, p.wordOf(5, 2, 2));
        check.due("word 5", MOST, p.wordOf(5, 1, 5));
        check.due("word of 0", -1, p.wordOf(5, 0, 0));
        check.due("word above the degree", -1, p.wordOf(5, 8, 0));
        for (int wrong : new int[] {-1, LEAST, 6, MOST}) {
            check.due("wrong word", -1, p.wordOf(5, 1, wrong));
        }
        for (int wrong : new int[] {-1, 9, LEAST, MOST}) {
            check.due("wrong power", 2, p.signOf(5, wrong));
            check.due("wrong power", -1, p.words(5, wrong));
            check.due("wrong power", -1, p.wordOf(5, wrong, 0));
        }
    }

    private static void same() {
        BigPolys p = new BigPolys();
        put(p, 0, 1, 2, 3);
        put(p, 1, 1, 2, 3);
        check.due("same", true, p.same(0, 1));
        check.due("itself", true, p.same(0, 0));
        put(p, 1, 1, 2);
        check.due("lower degree", false, p.same(0, 1));
        put(p, 1, 1, -2, 3);
        check.due("other sign", false, p.same(0, 1));
        put(p, 1, 4, 2, 3);
        check.due("other number", false, p.same(0, 1));
        put(p, 2, BigInteger.ONE.shiftLeft(62), BigInteger.ONE);
        put(p, 3, BigInteger.ONE.shiftLeft(31), BigInteger.ONE);
        check.due("other length", false, p.same(2, 3));
        check.due("0 and not", false, p.same(0, 7));
        check.due("0 and 0", true, p.same(6, 7));
    }

    private static void wrongRegisters() {
        BigPolys p = new BigPolys();
        put(p, 0, 1, 1);
        for (int r : WRONG) {
            check.due("add", 1, p.add(r, 0, 0, false));
            check.due("add", 1, p.add(0, r, 0, false));
            check.due("add", 1, p.add(0, 0, r, true));
            check.due("multiply", 1, p.multiply(r, 0, 0));
            check.due("multiply", 1, p.multiply(0, r, 0));
            check.due("multiply", 1, p.multiply(0, 0, r));
            check.due("derive", 1, p.derive(r, 0));
            check.due("derive", 1, p.derive(0, r));
            check.due("shift", 1, p.shift(r, 0, 1));
            check.due("shift", 1, p.shift(0, r, 1));
            check.due("remainder", 1, p.remainder(r, 0, 7));
            check.due("remainder", 1, p.remainder(0, r, 7));
            check.due("remainder", 1, p.remainder(0, 0, r));
            check.due("quotient", 1, p.quotient(r, 0, 7));
            check.due("quotient", 1, p.quotient(0, r, 7));
            check.due("quotient", 1, p.quotient(0, 0, r));
            check.due("gcd", 1, p.gcd(r, 0, 0));
            check.due("gcd", 1, p.gcd(0, r, 0));
            check.due("gcd", 1, p.gcd(0, 0, r));
            check.due("once", 1, p.once(r, 7));
            check.due("once", 1, p.once(0, r));
            check.due("sign", 2, p.sign(r, 1, 1));
            check.due("roots", -1, p.roots(r, 0, 1));
            check.due("allRoots", -1, p.allRoots(r));
            check.due("place", NOWHERE, p.place(r, 0));
            check.due("degree", -2, p.degree(r));
            check.due("signOf", 2, p.signOf(r, 0));
            check.due("words", -1, p.words(r, 0));
            check.due("wordOf", -1, p.wordOf(r, 0, 0));
            check.due("same", false, p.same(r, 0));
            check.due("same", false, p.same(0, r));
            check.due("same", false, p.same(r, r));
        }
        holds("it stays", p, 0, 1, 1);
    }
}
