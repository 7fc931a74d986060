import java.math.BigInteger;

/** Runs of calls made up by a fixed recipe, on the class and on the model. */
public final class ModelTest {
    private static final int SHORT_RUNS = 3000;
    private static final int LONG_RUNS = 40;
    private static final int DIVISIONS = 3000;

    public static void main(String[] args) {
        Check check = new Check();
        for (int run = 0; run < SHORT_RUNS; run++) {
            shortRun(check, run);
        }
        for (int run = 0; run < LONG_RUNS; run++) {
            longRun(check, run);
        }
        for (int run = 0; run < DIVISIONS; run++) {
            division(check, run);
        }
        check.end();
    }

    /** A few registers filled, one call that puts a result, all of it read; then the roots. */
    private static void shortRun(Check check, int run) {
        Dice dice = new Dice(run);
        Twin twin = new Twin(check, "short run " + run);
        twin.put(0, dice.anyPoly());
        twin.put(1, dice.anyPoly());
        if (dice.coin()) {
            // so that divisors and quotients are not all trivial
            twin.multiply(0, 0, 1);
        }
        int d = dice.from(0, 2);
        result(twin, dice, d, dice.from(0, 1), dice.from(0, 1));
        twin.word(dice.from(0, 5));
        twin.read(d);
        twin.same(0, 1);
        int x = dice.from(0, 2);
        twin.sign(x, dice.anyInt(), dice.anyInt());
        twin.roots(x, dice.anyInt(), dice.anyInt());
        int all = twin.allRoots(x);
        for (int k = 0; k <= all && k < 3; k++) {
            twin.place(x, k);
        }
    }

    /** Long division, which the common divisor of two coefficients shows at every step. */
    private static void division(Check check, int run) {
        Dice dice = new Dice(2000000 + run);
        Twin twin = new Twin(check, "division " + run);
        BigInteger content = dice.whole(31 * dice.from(1, 3));
        BigInteger[] x = Model.scaled(dice.poly(1, 31 * dice.from(1, 3)), content);
        twin.put(0, x);
        twin.gcd(1, 0, 7);
        twin.read(1);
        twin.put(2, Model.trim(new BigInteger[] {content}));
        twin.quotient(3, 0, 2);
        twin.read(3);
        twin.quotient(3, 2, 3);
        twin.read(3);
    }

    private static int result(Twin twin, Dice dice, int d, int x, int y) {
        switch (dice.below(8)) {
            case 0:
                return twin.add(d, x, y, dice.coin());
            case 1:
                return twin.multiply(d, x, y);
            case 2:
                return twin.derive(d, x);
            case 3:
                return twin.shift(d, x, dice.anyInt());
            case 4:
                return twin.remainder(d, x, y);
            case 5:
                return twin.quotient(d, x, y);
            case 6:
                return twin.gcd(d, x, y);
            default:
                return twin.once(d, x);
        }
    }

    /** 500 calls or so with arguments of all kinds, some of them wrong. */
    private static void longRun(Check check, int run) {
        Dice dice = new Dice(1000000 + run);
        Twin twin = new Twin(check, "long run " + run);
        for (int call = 0; call < 400; call++) {
            anyCall(twin, dice);
        }
        for (int r = 0; r < 8; r++) {
            twin.degree(r);
            for (int i = 0; i <= 8; i++) {
                twin.signOf(r, i);
            }
        }
    }

    private static int register(Dice dice) {
        return dice.below(25) == 0 ? dice.anyInt() : dice.below(4);
    }

    private static void anyCall(Twin twin, Dice dice) {
        int x = register(dice);
        int kind = dice.below(20);
        if (kind < 5) {
            twin.coefficient(x, dice.from(-1, 9), dice.from(-1, 1));
        } else if (kind < 10) {
            twin.word(dice.below(8) == 0 ? dice.anyInt() : dice.from(0, 3));
        } else if (kind < 14) {
            result(twin, dice, register(dice), x, register(dice));
        } else if (kind == 14) {
            twin.sign(x, dice.anyInt(), dice.anyInt());
        } else if (kind == 15) {
            twin.roots(x, dice.anyInt(), dice.anyInt());
        } else if (kind == 16) {
            twin.allRoots(x);
        } else if (kind == 17) {
            twin.place(x, dice.from(-1, 3));
        } else if (kind == 18) {
            twin.same(x, register(dice));
        } else {
            twin.words(x, dice.from(-1, 9));
            twin.wordOf(x, dice.from(-1, 9), dice.from(-1, 6));
        }
    }
}
