/** The calls that put a result into a register, all called alike. */
enum Op {
    ADD(true) {
        @Override
        int call(BigPolys p, int d, int x, int y) {
            return p.add(d, x, y, false);
        }
    },
    MINUS(true) {
        @Override
        int call(BigPolys p, int d, int x, int y) {
            return p.add(d, x, y, true);
        }
    },
    MULTIPLY(true) {
        @Override
        int call(BigPolys p, int d, int x, int y) {
            return p.multiply(d, x, y);
        }
    },
    DERIVE(false) {
        @Override
        int call(BigPolys p, int d, int x, int y) {
            return p.derive(d, x);
        }
    },
    SHIFT(false) {
        @Override
        int call(BigPolys p, int d, int x, int y) {
            return p.shift(d, x, 3);
        }
    },
    REMAINDER(true) {
        @Override
        int call(BigPolys p, int d, int x, int y) {
            return p.remainder(d, x, y);
        }
    },
    QUOTIENT(true) {
        @Override
        int call(BigPolys p, int d, int x, int y) {
            return p.quotient(d, x, y);
        }
    },
    GCD(true) {
        @Override
        int call(BigPolys p, int d, int x, int y) {
            return p.gcd(d, x, y);
        }
    },
    ONCE(false) {
        @Override
        int call(BigPolys p, int d, int x, int y) {
            return p.once(d, x);
        }
    };

    /** Whether y is looked at. */
    final boolean hasTwo;

    Op(boolean hasTwo) {
        this.hasTwo = hasTwo;
    }

    abstract int call(BigPolys p, int d, int x, int y);
}
