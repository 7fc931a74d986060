import java.math.BigInteger;

/** Numbers and polynomials made up by a fixed recipe: the same ones at every run. */
final class Dice {
    private static final long[] EDGES = {
        Integer.MIN_VALUE, Integer.MIN_VALUE + 1L, Integer.MIN_VALUE - 1L,
        Integer.MAX_VALUE, Integer.MAX_VALUE + 1L, Integer.MAX_VALUE - 1L, 0, 1, -1,
    };

    /** Words at which a guessed digit of a quotient goes wrong. */
    private static final long[] KNOTS = {0, 0, 1, 0x3fffffff, 0x40000000, 0x40000001, 0x7ffffffe, 0x7fffffff};

    private long state;

    Dice(long seed) {
        state = seed * 0x9E3779B97F4A7C15L + 1;
    }

    private long step() {
        state = state * 6364136223846793005L + 1442695040888963407L;
        long mixed = (state ^ (state >>> 33)) * 0xff51afd7ed558ccdL;
        return mixed ^ (mixed >>> 33);
    }

    /** 0 .. n - 1. */
    int below(int n) {
        return (int) Math.floorMod(step(), (long) n);
    }

    int from(int low, int high) {
        return low + below(high - low + 1);
    }

    boolean coin() {
        return below(2) == 0;
    }

    int anyInt() {
        switch (below(4)) {
            case 0:
                return (int) EDGES[below(EDGES.length)];
            case 1:
                return (int) step();
            default:
                return from(-20, 20);
        }
    }

    /** Any sign, up to the bits told; now and then all bits set, or words that are hard to divide. */
    BigInteger whole(int bits) {
        BigInteger value = BigInteger.ZERO;
        int kind = below(6);
        for (int i = 0; i < bits; i += 31) {
            long word = kind == 0 ? 0x7fffffff : kind == 1 ? KNOTS[below(KNOTS.length)] : step() & 0x7fffffff;
            value = value.shiftLeft(31).add(BigInteger.valueOf(word));
        }
        BigInteger cut = value.mod(BigInteger.ONE.shiftLeft(bits));
        return coin() ? cut : cut.negate();
    }

    BigInteger[] poly(int degree, int bits) {
        BigInteger[] p = new BigInteger[degree + 1];
        for (int i = 0; i <= degree; i++) {
            p[i] = whole(bits);
        }
        return Model.trim(p);
    }

    BigInteger[] sparse(int degree, int bits) {
        BigInteger[] p = poly(degree, bits);
        for (int i = 0; i < p.length - 1; i++) {
            if (below(3) != 0) {
                p[i] = BigInteger.ZERO;
            }
        }
        return p;
    }

    /** A product of factors of degrees 1 and 2, some of them more than once. */
    BigInteger[] factored(int degree, int bits) {
        BigInteger[] p = {BigInteger.valueOf(from(1, 3) * (coin() ? 1 : -1))};
        BigInteger[] factor = poly(1, bits);
        for (int turn = 0; turn < 12; turn++) {
            if (coin()) {
                factor = poly(from(1, 2), bits);
            }
            if (factor.length > 0 && p.length + factor.length - 2 <= degree) {
                p = Model.product(p, factor);
            }
        }
        return p;
    }

    /** A product of t - e with e at the edges of the ints or near them. */
    BigInteger[] edged(int degree) {
        BigInteger[] p = {BigInteger.ONE};
        for (int i = 0; i < degree; i++) {
            BigInteger num = BigInteger.valueOf(EDGES[below(EDGES.length)]);
            BigInteger den = BigInteger.valueOf(from(1, 3));
            BigInteger near = num.multiply(den).add(BigInteger.valueOf(from(-1, 1)));
            p = Model.product(p, new BigInteger[] {near.negate(), den});
        }
        return p;
    }

    BigInteger[] anyPoly() {
        BigInteger[] p = somePoly();
        for (BigInteger c : p) {
            if (c.abs().bitLength() > Model.MOST_BITS) {
                return poly(from(0, 8), 20);
            }
        }
        return p;
    }

    private BigInteger[] somePoly() {
        int degree = from(0, 8);
        switch (below(9)) {
            case 0:
                return poly(degree, 4);
            case 1:
                return poly(degree, Model.MOST_BITS);
            case 2:
                return poly(degree, from(1, Model.MOST_BITS));
            case 3:
                return sparse(degree, from(1, Model.MOST_BITS));
            case 4:
                return factored(8, 3);
            case 5:
                return factored(8, from(2, 20));
            case 6:
                return factored(from(1, 5), from(2, 60));
            case 7:
                return edged(from(1, 5));
            default:
                return poly(from(0, 1), from(1, 40));
        }
    }
}
