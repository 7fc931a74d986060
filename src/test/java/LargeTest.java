import java.math.BigInteger;
import java.util.Arrays;

/** The largest coefficients, and chains whose degrees fall by more than one: the rows must be wide enough. */
public final class LargeTest {
    private static final int RUNS = 60;
    private static final int GAPS = 400;
    private static final int FULL = Model.MOST_BITS;

    public static void main(String[] args) {
        Check check = new Check();
        for (int run = 0; run < RUNS; run++) {
            Dice dice = new Dice(5000000 + run);
            both(check, "full " + run, dice.poly(8, FULL), dice.poly(dice.from(6, 8), FULL));
            both(check, "sparse " + run, dice.sparse(8, FULL), dice.sparse(dice.from(1, 8), FULL));
            gapped(check, run, dice);
            shared(check, run, dice);
            repeated(check, run, dice);
        }
        for (int power = 1; power < 8; power++) {
            trinomial(check, power);
        }
        for (int run = 0; run < GAPS; run++) {
            gapInTheMiddle(check, run);
            powers(check, run);
        }
        check.end();
    }

    private static void both(Check check, String name, BigInteger[] x, BigInteger[] y) {
        Twin twin = new Twin(check, name);
        twin.put(0, x);
        twin.put(1, y);
        twin.gcd(2, 0, 1);
        twin.read(2);
        twin.gcd(3, 1, 0);
        twin.same(2, 3);
        twin.remainder(3, 0, 1);
        twin.quotient(3, 0, 1);
        twin.once(4, 0);
        twin.read(4);
        int all = twin.allRoots(0);
        for (int k = 0; k < all; k++) {
            twin.place(0, k);
        }
        twin.roots(0, Integer.MIN_VALUE, Integer.MAX_VALUE);
        twin.sign(0, Integer.MIN_VALUE, Integer.MAX_VALUE);
        twin.sign(0, Integer.MAX_VALUE, Integer.MIN_VALUE);
        twin.shift(5, 0, Integer.MIN_VALUE);
    }

    /** Two polynomials made from the end of their chain upward, with falls of degree as told by the dice. */
    private static void gapped(Check check, int run, Dice dice) {
        BigInteger[] low = dice.poly(0, 20);
        BigInteger[] high = dice.poly(dice.from(1, 3), 25);
        for (int turn = 0; turn < 12; turn++) {
            int room = 9 - high.length;
            BigInteger[] factor = dice.poly(Math.min(room, dice.below(3) == 0 ? dice.from(1, 4) : 1), 25);
            if (room < 1 || factor.length < 2 || high.length < 1) {
                break;
            }
            BigInteger[] next = Model.sum(Model.product(factor, high), low, false);
            low = high;
            high = next;
        }
        if (fits(high) && fits(low)) {
            both(check, "gapped " + run, high, low);
            both(check, "gapped twin " + run, high, Model.sum(high, low, true));
        }
    }

    private static boolean fits(BigInteger[] x) {
        for (BigInteger c : x) {
            if (c.abs().bitLength() > FULL) {
                return false;
            }
        }
        return x.length <= 9;
    }

    /** Two that share a factor, which may be larger than they are. */
    private static void shared(Check check, int run, Dice dice) {
        int degree = dice.from(1, 6);
        BigInteger[] common = dice.poly(degree, dice.from(1, 120));
        BigInteger[] x = Model.product(common, dice.poly(8 - degree, 60));
        BigInteger[] y = Model.product(common, dice.poly(dice.from(1, 8 - degree), 60));
        if (fits(x) && fits(y)) {
            both(check, "shared " + run, x, y);
        }
    }

    private static void repeated(Check check, int run, Dice dice) {
        BigInteger[] root = dice.poly(dice.from(1, 3), dice.from(2, 50));
        BigInteger[] x = Model.product(root, root);
        BigInteger[] other = dice.poly(9 - Math.max(1, x.length), 80);
        BigInteger[] y = Model.product(x, other);
        if (fits(y)) {
            both(check, "repeated " + run, y, Model.slope(y));
        }
    }

    /** a t^8 + b t^power + c with all bits set, in all signs. */
    private static void trinomial(Check check, int power) {
        BigInteger most = BigInteger.ONE.shiftLeft(FULL).subtract(BigInteger.ONE);
        for (int signs = 0; signs < 8; signs++) {
            BigInteger[] x = new BigInteger[9];
            Arrays.fill(x, BigInteger.ZERO);
            x[8] = (signs & 1) == 0 ? most : most.negate();
            x[power] = (signs & 2) == 0 ? most : most.negate();
            x[0] = (signs & 4) == 0 ? most.subtract(BigInteger.TWO) : most.negate();
            both(check, "trinomial " + power + " " + signs, x, Model.trim(new BigInteger[] {most, BigInteger.ONE, most}));
        }
    }

    /**
     * Two whose degrees fall by more than one behind the first step, and which share a factor: a
     * link that is not exact then shows, for the last one does not become 0.
     */
    private static void gapInTheMiddle(Check check, int run) {
        Dice dice = new Dice(6000000 + run);
        int degree = dice.from(3, 7);
        int bits = dice.from(2, 60);
        BigInteger[] common = dice.poly(8 - degree, bits);
        BigInteger[] u = dice.sparse(degree, bits);
        BigInteger[] v = dice.coin() ? Model.slope(u) : dice.sparse(degree - 1, bits);
        BigInteger[] x = Model.product(u, common);
        BigInteger[] y = Model.product(v, common);
        if (fits(x) && fits(y)) {
            both(check, "gap in the middle " + run, x, y);
        }
    }

    /** w(t^k) t^j, with roots that come oftener: degrees fall by k, and the chain ends early. */
    private static void powers(Check check, int run) {
        Dice dice = new Dice(7000000 + run);
        int k = dice.from(2, 4);
        int bits = dice.from(2, 40);
        BigInteger[] line = dice.poly(1, bits);
        BigInteger[] w = Model.product(Model.product(line, line), dice.poly(8 / k - 2, bits));
        BigInteger[] x = new BigInteger[9];
        Arrays.fill(x, BigInteger.ZERO);
        int up = dice.from(0, 8 % k);
        for (int i = 0; i < w.length; i++) {
            x[k * i + up] = w[i];
        }
        x = Model.trim(x);
        if (x.length > 1 && fits(x)) {
            both(check, "powers " + run, x, Model.slope(x));
        }
    }
}
