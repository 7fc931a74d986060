import java.util.Arrays;

/**
 * Polynomials of one letter with whole coefficients of up to 186 bits, in eight registers.
 *
 * <p>All rows are made with the object and used again by every call; no call makes anything.
 */
public final class BigPolys {
    public static final int NONE = -1;

    private static final int REGISTERS = 8;
    private static final int TOP = 8;
    private static final int ROOM = 6;
    private static final int BITS = 31;
    private static final int MASK = 0x7fffffff;

    /**
     * A link of a chain is a subresultant, a determinant of at most 16 rows, each at most three
     * times 2^186 long: at most 3002 bits, which are 97 digits. A derivative's rows are longer, but
     * then there are 15 at most: 2833 bits.
     */
    private static final int LINK_ROOM = 100;

    /**
     * A pseudo-remainder, before it is divided, is dearest where a link of degree 4 (8 rows) is
     * reduced by one of degree 1 (10 rows, to the fourth power): 48 rows, which are 291 digits.
     */
    private static final int WORK_ROOM = 300;

    /** Dividing a degree of 8 by one of 1, each of eight steps may add six digits and a bit. */
    private static final int PART_ROOM = 60;

    /** Degrees 8, 8, 7, 6 .. 0: the longest chain that two polynomials begin. */
    private static final int LINKS = 10;

    /** Euclid's way needs less than 1.5 turns a bit; the longest row has 9300 bits. */
    private static final int MOST_TURNS = 1000000;

    /** All ints are halved down to one in 32 steps. */
    private static final int MOST_HALVINGS = 64;

    private static final int DONE = 0;
    private static final int NO_REGISTER = 1;
    private static final int NOT_TO_BE_HAD = 2;
    private static final int NO_ROOM = 3;
    private static final int NO_SIGN = 2;
    private static final int NO_DEGREE = -2;

    private final Poly[] registers;
    private final Bench bench;
    private final Chain chain;
    private int handRegister;
    private int handPower;
    private int handSign;
    private int handCount;

    public BigPolys() {
        registers = new Poly[REGISTERS];
        for (int r = 0; r < REGISTERS; r++) {
            registers[r] = new Poly(TOP, ROOM);
        }
        chain = new Chain();
        bench = chain.bench;
        handRegister = NONE;
    }

    public boolean coefficient(int register, int i, int sign) {
        handRegister = NONE;
        if (!isCoefficient(register, i)) {
            return false;
        }
        registers[register].terms[i].clear();
        registers[register].measure();
        handRegister = register;
        handPower = i;
        handSign = sign < 0 ? -1 : 1;
        handCount = 0;
        return true;
    }

    public boolean word(int w) {
        if (!isCoefficient(handRegister, handPower) || w < 0 || handCount >= ROOM) {
            return false;
        }
        registers[handRegister].terms[handPower].put(handCount, w, handSign);
        registers[handRegister].measure();
        handCount++;
        return true;
    }

    public int add(int d, int x, int y, boolean minus) {
        if (!areRegisters(d, x, y)) {
            return NO_REGISTER;
        }
        bench.sum(registers[x], registers[y], minus ? -1 : 1);
        return deliver(d, bench.work);
    }

    public int multiply(int d, int x, int y) {
        if (!areRegisters(d, x, y)) {
            return NO_REGISTER;
        }
        // the leading coefficients' product is never 0, so the degrees add up (one of 0 lowers them)
        if (registers[x].degree + registers[y].degree > TOP) {
            return NO_ROOM;
        }
        bench.times(registers[x], registers[y]);
        return deliver(d, bench.work);
    }

    public int derive(int d, int x) {
        if (!areRegisters(d, x, x)) {
            return NO_REGISTER;
        }
        bench.work.slopeOf(registers[x]);
        return deliver(d, bench.work);
    }

    public int shift(int d, int x, int c) {
        if (!areRegisters(d, x, x)) {
            return NO_REGISTER;
        }
        bench.move(registers[x], c);
        return deliver(d, bench.work);
    }

    public int remainder(int d, int x, int y) {
        if (!areRegisters(d, x, y)) {
            return NO_REGISTER;
        }
        if (registers[y].degree < 0) {
            return NOT_TO_BE_HAD;
        }
        bench.rest(registers[x], registers[y]);
        return deliver(d, bench.work);
    }

    public int quotient(int d, int x, int y) {
        if (!areRegisters(d, x, y)) {
            return NO_REGISTER;
        }
        if (!bench.splits(registers[x], registers[y])) {
            return NOT_TO_BE_HAD;
        }
        return deliver(d, bench.part);
    }

    public int gcd(int d, int x, int y) {
        if (!areRegisters(d, x, y)) {
            return NO_REGISTER;
        }
        return deliver(d, chain.commonDivisor(registers[x], registers[y]));
    }

    public int once(int d, int x) {
        if (!areRegisters(d, x, x)) {
            return NO_REGISTER;
        }
        if (registers[x].degree < 0) {
            return NOT_TO_BE_HAD;
        }
        return deliver(d, chain.squareFree(registers[x]));
    }

    public int sign(int x, int num, int den) {
        if (!isRegister(x) || den == 0) {
            return NO_SIGN;
        }
        long above = den < 0 ? -(long) num : (long) num;
        return bench.signAt(registers[x], above, Math.abs((long) den));
    }

    public int roots(int x, int low, int high) {
        if (!isRegister(x) || registers[x].degree < 0 || low > high) {
            return NONE;
        }
        chain.prepare(registers[x]);
        return chain.changes(low, false) - chain.changes(high, false);
    }

    public int allRoots(int x) {
        if (!isRegister(x) || registers[x].degree < 0) {
            return NONE;
        }
        chain.prepare(registers[x]);
        return chain.changes(-1, true) - chain.changes(1, true);
    }

    public long place(int x, int k) {
        if (!isRegister(x) || registers[x].degree < 0 || k < 0) {
            return Long.MIN_VALUE;
        }
        chain.prepare(registers[x]);
        return chain.floorOfRoot(k);
    }

    public int degree(int x) {
        return isRegister(x) ? registers[x].degree : NO_DEGREE;
    }

    public int signOf(int x, int i) {
        return isCoefficient(x, i) ? registers[x].terms[i].sign : NO_SIGN;
    }

    public int words(int x, int i) {
        return isCoefficient(x, i) ? registers[x].terms[i].size : NONE;
    }

    public int wordOf(int x, int i, int j) {
        if (!isCoefficient(x, i) || j < 0 || j >= registers[x].terms[i].size) {
            return NONE;
        }
        return registers[x].terms[i].digits[j];
    }

    public boolean same(int x, int y) {
        return isRegister(x) && isRegister(y) && registers[x].isLike(registers[y]);
    }

    private static boolean isRegister(int r) {
        return r >= 0 && r < REGISTERS;
    }

    private static boolean areRegisters(int d, int x, int y) {
        return isRegister(d) && isRegister(x) && isRegister(y);
    }

    private static boolean isCoefficient(int r, int i) {
        return isRegister(r) && i >= 0 && i <= TOP;
    }

    private int deliver(int d, Poly result) {
        if (!result.fits()) {
            return NO_ROOM;
        }
        registers[d].load(result);
        if (handRegister == d) {
            handRegister = NONE;
        }
        return DONE;
    }

    /**
     * A whole number: its sign and its digits of 31 bits, the lowest first. The highest of them is
     * never 0; what stands from size on is old and is not looked at.
     */
    private static final class Whole {
        private final int[] digits;
        private int size;
        private int sign;

        Whole(int room) {
            digits = new int[room];
        }

        void clear() {
            size = 0;
            sign = 0;
        }

        void setOne() {
            clear();
            put(0, 1, 1);
        }

        /** Writes the next higher digit; a 0 is kept below a digit that may yet come. */
        void put(int at, int digit, int newSign) {
            if (at < 0 || at >= digits.length) {
                return;
            }
            digits[at] = digit;
            if (digit != 0) {
                size = at + 1;
                sign = newSign;
            }
        }

        void load(Whole other) {
            size = Math.min(other.size, digits.length);
            sign = other.sign;
            System.arraycopy(other.digits, 0, digits, 0, size);
            trim();
        }

        void negate() {
            sign = -sign;
        }

        boolean isUnit() {
            return size == 1 && digits[0] == 1;
        }

        boolean isLike(Whole other) {
            return sign == other.sign && compareAbs(other) == 0;
        }

        /** Adds the other one, or takes it away where the factor is below 0. */
        void plus(Whole other, int factor) {
            int otherSign = factor < 0 ? -other.sign : other.sign;
            if (otherSign == 0) {
                return;
            }
            if (sign == 0 || sign == otherSign) {
                sign = otherSign;
                join(other);
            } else if (compareAbs(other) >= 0) {
                differ(this, other);
            } else {
                sign = otherSign;
                differ(other, this);
            }
            trim();
        }

        /** Compares without the signs. */
        private int compareAbs(Whole other) {
            if (size != other.size) {
                return size < other.size ? -1 : 1;
            }
            for (int i = size - 1; i >= 0; i--) {
                if (digits[i] != other.digits[i]) {
                    return digits[i] < other.digits[i] ? -1 : 1;
                }
            }
            return 0;
        }

        private void join(Whole other) {
            int end = Math.min(Math.max(size, other.size), digits.length);
            int carry = 0;
            for (int i = 0; i < end; i++) {
                int mine = i < size ? digits[i] : 0;
                int theirs = i < other.size ? other.digits[i] : 0;
                // the sum has 32 bits at most: its top bit is the carry
                int sum = mine + theirs + carry;
                digits[i] = sum & MASK;
                carry = sum >>> BITS;
            }
            size = end;
            if (carry != 0 && size < digits.length) {
                digits[size] = carry;
                size++;
            }
        }

        private void differ(Whole larger, Whole smaller) {
            int end = Math.min(larger.size, digits.length);
            int borrow = 0;
            for (int i = 0; i < end; i++) {
                int less = i < smaller.size ? smaller.digits[i] : 0;
                int rest = larger.digits[i] - less - borrow;
                digits[i] = rest & MASK;
                borrow = rest >>> BITS;
            }
            size = end;
        }

        private void trim() {
            while (size > 0 && digits[size - 1] == 0) {
                size--;
            }
            if (size == 0) {
                sign = 0;
            }
        }

        /** Multiplies by a factor from -2^31 to 2^31, so that no product passes 2^62. */
        void scale(long factor) {
            if (factor == 0) {
                clear();
                return;
            }
            long by = factor < 0 ? -factor : factor;
            long carry = 0;
            for (int i = 0; i < size; i++) {
                long product = digits[i] * by + carry;
                digits[i] = (int) (product & MASK);
                carry = product >>> BITS;
            }
            while (carry != 0 && size < digits.length) {
                digits[size] = (int) (carry & MASK);
                size++;
                carry = carry >>> BITS;
            }
            sign = factor < 0 ? -sign : sign;
        }

        /** Becomes x y; it is itself neither of them. */
        void product(Whole x, Whole y) {
            int end = Math.min(x.size + y.size, digits.length);
            Arrays.fill(digits, 0, end, 0);
            for (int i = 0; i < x.size; i++) {
                long by = x.digits[i];
                long carry = 0;
                for (int j = 0; j < y.size && i + j < end; j++) {
                    long sum = by * y.digits[j] + digits[i + j] + carry;
                    digits[i + j] = (int) (sum & MASK);
                    carry = sum >>> BITS;
                }
                if (i + y.size < end) {
                    digits[i + y.size] = (int) carry;
                }
            }
            size = end;
            sign = x.sign * y.sign;
            trim();
        }

        /**
         * Divides towards 0: the result is put, this one becomes the rest. Where there is nothing to
         * divide by, or no room for the result, the result is 0 and all is rest.
         */
        void divide(Whole by, Whole result) {
            result.clear();
            int highest = size - by.size;
            if (by.size == 0 || highest < 0 || highest >= result.digits.length) {
                return;
            }
            int up = Integer.numberOfLeadingZeros(by.digits[by.size - 1]) - 1;
            long first = by.window(by.size - 1, up);
            long second = by.window(by.size - 2, up);
            for (int at = highest; at >= 0; at--) {
                int end = at + by.size;
                long over = (window(end, up) << BITS) | window(end - 1, up);
                long digit = guess(over, window(end - 2, up), first, second);
                if (digit != 0 && takesTooMuch(by, digit, at)) {
                    giveBack(by, at);
                    digit--;
                }
                result.digits[at] = (int) digit;
            }
            result.size = highest + 1;
            result.sign = sign * by.sign;
            result.trim();
            trim();
        }

        /** Digit i of this number times 2^up, without making that number. */
        private long window(int i, int up) {
            int here = i >= 0 && i < size ? digits[i] : 0;
            int below = i >= 1 && i <= size ? digits[i - 1] : 0;
            return ((here << up) | (below >>> (BITS - up))) & MASK;
        }

        /** The next digit of a quotient, at most one too high (Knuth's algorithm D, step D3). */
        private static long guess(long over, long next, long first, long second) {
            if (first <= 0) {
                return 0;
            }
            long digit = Math.min(over / first, (long) MASK);
            long rest = over - digit * first;
            for (int turn = 0; turn < 2 && rest <= MASK; turn++) {
                if (digit * second <= ((rest << BITS) | next)) {
                    return digit;
                }
                digit--;
                rest += first;
            }
            return digit;
        }

        /** Takes by * digit, from digit at on upward; whether that was more than there is. */
        private boolean takesTooMuch(Whole by, long digit, int at) {
            long borrow = 0;
            for (int i = 0; i < by.size && at + i < size; i++) {
                long rest = digits[at + i] - by.digits[i] * digit + borrow;
                digits[at + i] = (int) (rest & MASK);
                borrow = rest >> BITS;
            }
            int end = at + by.size;
            if (end < size) {
                borrow += digits[end];
                digits[end] = (int) (borrow & MASK);
            }
            return borrow < 0;
        }

        private void giveBack(Whole by, int at) {
            int carry = 0;
            for (int i = 0; i < by.size && at + i < size; i++) {
                int sum = digits[at + i] + by.digits[i] + carry;
                digits[at + i] = sum & MASK;
                carry = sum >>> BITS;
            }
            int end = at + by.size;
            if (end < size) {
                digits[end] = (digits[end] + carry) & MASK;
            }
        }
    }

    /** A polynomial: its terms by their powers. Those above the degree are 0. */
    private static final class Poly {
        private final Whole[] terms;
        private int degree;

        Poly(int top, int room) {
            terms = new Whole[top + 1];
            for (int i = 0; i <= top; i++) {
                terms[i] = new Whole(room);
            }
            degree = -1;
        }

        void clear() {
            for (int i = 0; i < terms.length; i++) {
                terms[i].clear();
            }
            degree = -1;
        }

        void setOne() {
            clear();
            terms[0].setOne();
            degree = 0;
        }

        void load(Poly other) {
            for (int i = 0; i < terms.length; i++) {
                if (i <= other.degree) {
                    terms[i].load(other.terms[i]);
                } else {
                    terms[i].clear();
                }
            }
            measure();
        }

        /** Becomes the other one's derivative; it is itself not that one. */
        void slopeOf(Poly other) {
            for (int i = 0; i < terms.length; i++) {
                if (i < other.degree) {
                    terms[i].load(other.terms[i + 1]);
                    terms[i].scale(i + 1);
                } else {
                    terms[i].clear();
                }
            }
            measure();
        }

        void negate() {
            for (int i = 0; i <= degree; i++) {
                terms[i].negate();
            }
        }

        void measure() {
            int i = terms.length - 1;
            while (i >= 0 && terms[i].sign == 0) {
                i--;
            }
            degree = i;
        }

        int leadSign() {
            return degree < 0 ? 0 : terms[degree].sign;
        }

        /** The sign beyond all roots, on a point's side of 0. */
        int signBeyond(long point) {
            return point < 0 && degree % 2 != 0 ? -leadSign() : leadSign();
        }

        boolean fits() {
            for (int i = 0; i <= degree; i++) {
                if (i > TOP || terms[i].size > ROOM) {
                    return false;
                }
            }
            return true;
        }

        boolean isLike(Poly other) {
            if (degree != other.degree) {
                return false;
            }
            for (int i = 0; i <= degree; i++) {
                if (!terms[i].isLike(other.terms[i])) {
                    return false;
                }
            }
            return true;
        }
    }

    /** Where results are worked out, with room for all that comes on the way. */
    private static final class Bench {
        private final Poly work = new Poly(TOP, WORK_ROOM);
        private final Poly part = new Poly(TOP, PART_ROOM);
        private final Whole one = new Whole(WORK_ROOM);
        private final Whole two = new Whole(WORK_ROOM);
        private final Whole three = new Whole(WORK_ROOM);
        private final Whole four = new Whole(WORK_ROOM);

        /** Work becomes x + y, or x - y where the factor is below 0. */
        void sum(Poly x, Poly y, int factor) {
            work.load(x);
            for (int i = 0; i <= y.degree && i <= TOP; i++) {
                work.terms[i].plus(y.terms[i], factor);
            }
            work.measure();
        }

        /** Work becomes x y, whose degree is at most TOP. */
        void times(Poly x, Poly y) {
            work.clear();
            for (int i = 0; i <= x.degree; i++) {
                for (int j = 0; j <= y.degree && i + j <= TOP; j++) {
                    one.product(x.terms[i], y.terms[j]);
                    work.terms[i + j].plus(one, 1);
                }
            }
            work.measure();
        }

        /** Work becomes x with t + c for t. */
        void move(Poly x, int c) {
            work.load(x);
            for (int i = 0; i < work.degree; i++) {
                for (int j = work.degree - 1; j >= i; j--) {
                    one.load(work.terms[j + 1]);
                    one.scale(c);
                    work.terms[j].plus(one, 1);
                }
            }
        }

        /** Work becomes the pseudo-remainder of x by y. */
        void rest(Poly x, Poly y) {
            work.load(x);
            reduce(y);
            int power = x.degree - y.degree + 1;
            if (power > 0 && power % 2 == 1 && y.leadSign() < 0) {
                work.negate();
            }
        }

        /**
         * Work becomes its pseudo-remainder by the other one, with the leading coefficient's size
         * in place of that coefficient: so a factor above 0 alone comes in.
         */
        void reduce(Poly by) {
            if (by.degree < 0) {
                return;
            }
            Whole lead = by.terms[by.degree];
            for (int up = work.degree - by.degree; up >= 0; up--) {
                Whole over = work.terms[by.degree + up];
                one.load(over);
                over.clear();
                for (int i = 0; i < by.degree + up; i++) {
                    two.product(work.terms[i], lead);
                    if (i >= up) {
                        three.product(one, by.terms[i - up]);
                        two.plus(three, -1);
                    }
                    if (lead.sign < 0) {
                        two.negate();
                    }
                    work.terms[i].load(two);
                }
            }
            work.measure();
        }

        /** Whether x is q y; part becomes that q. */
        boolean splits(Poly x, Poly y) {
            if (y.degree < 0) {
                return false;
            }
            work.load(x);
            part.clear();
            for (int up = work.degree - y.degree; up >= 0; up--) {
                Whole over = work.terms[y.degree + up];
                over.divide(y.terms[y.degree], part.terms[up]);
                if (over.sign != 0) {
                    return false;
                }
                for (int i = 0; i < y.degree; i++) {
                    one.product(part.terms[up], y.terms[i]);
                    work.terms[i + up].plus(one, -1);
                }
            }
            part.measure();
            work.measure();
            return work.degree < 0;
        }

        /** The sign of x at num / den, den above 0: that of its value times den^degree. */
        int signAt(Poly x, long num, long den) {
            one.clear();
            two.setOne();
            for (int i = x.degree; i >= 0; i--) {
                one.scale(num);
                three.product(x.terms[i], two);
                one.plus(three, 1);
                two.scale(den);
            }
            return one.sign;
        }

        /** Puts the primitive part of a polynomial in its place. */
        void makePrimitive(Poly x) {
            one.clear();
            for (int i = x.degree; i >= 0 && !one.isUnit(); i--) {
                two.load(x.terms[i]);
                meet();
            }
            divideAll(x, one);
            if (x.leadSign() < 0) {
                x.negate();
            }
        }

        /** One becomes the greatest common divisor of one and two, of either sign. */
        private void meet() {
            Whole divided = one;
            Whole divisor = two;
            for (int turn = 0; turn < MOST_TURNS && divisor.sign != 0; turn++) {
                divided.divide(divisor, three);
                Whole rest = divided;
                divided = divisor;
                divisor = rest;
            }
            if (divided != one) {
                one.load(divided);
            }
        }

        /** Divides every term by a number that divides it. */
        void divideAll(Poly x, Whole by) {
            if (by.isUnit() && by.sign > 0) {
                return;
            }
            for (int i = 0; i <= x.degree; i++) {
                x.terms[i].divide(by, three);
                x.terms[i].load(three);
            }
        }

        /**
         * Makes a multiple of the primitive common divisor of x and y a small one: that divisor's
         * leading coefficient divides those of x and y.
         */
        void makeSmall(Poly multiple, Poly x, Poly y) {
            if (multiple.degree < 0 || x.degree < 0 || y.degree < 0) {
                return;
            }
            one.load(x.terms[x.degree]);
            two.load(y.terms[y.degree]);
            meet();
            four.load(multiple.terms[multiple.degree]);
            for (int i = 0; i <= multiple.degree; i++) {
                two.product(multiple.terms[i], one);
                two.divide(four, three);
                multiple.terms[i].load(three);
            }
        }
    }

    /**
     * Polynomials of which each is, up to a factor above 0, the negated remainder of the two before
     * it: a Sturm chain where the second is the first one's derivative. The factors are those of the
     * subresultants, which keep all links whole and short.
     */
    private static final class Chain {
        private final Bench bench = new Bench();
        private final Poly[] links = new Poly[LINKS];
        private final Whole lead = new Whole(LINK_ROOM);
        private final Whole height = new Whole(LINK_ROOM);
        private final Whole power = new Whole(WORK_ROOM);
        private final Whole next = new Whole(WORK_ROOM);
        private int last;

        Chain() {
            for (int i = 0; i < LINKS; i++) {
                links[i] = new Poly(Math.min(TOP, LINKS - 1 - i), LINK_ROOM);
            }
        }

        Poly commonDivisor(Poly x, Poly y) {
            boolean ordered = x.degree >= y.degree;
            links[0].load(ordered ? x : y);
            links[1].load(ordered ? y : x);
            if (links[1].degree < 0) {
                bench.makePrimitive(links[0]);
                return links[0];
            }
            build();
            return divisorAtEnd();
        }

        /** The primitive polynomial with the roots of x, which is not 0, each once. */
        Poly squareFree(Poly x) {
            begin(x);
            if (x.degree < 1) {
                links[0].setOne();
                return links[0];
            }
            build();
            bench.splits(links[0], divisorAtEnd());
            bench.makePrimitive(bench.part);
            return bench.part;
        }

        /** Makes the Sturm chain of x, or of what has its roots each once where x has some oftener. */
        void prepare(Poly x) {
            begin(x);
            if (x.degree < 1) {
                last = 0;
                return;
            }
            build();
            // at a root that x has oftener all links would be 0
            if (links[last].degree > 0) {
                bench.splits(links[0], divisorAtEnd());
                begin(bench.part);
                build();
            }
        }

        private void begin(Poly x) {
            links[0].load(x);
            links[1].slopeOf(x);
        }

        /** Makes the links behind the first two, which are not 0, the second of no higher degree. */
        private void build() {
            lead.setOne();
            height.setOne();
            last = 1;
            while (last + 1 < LINKS && links[last].degree > 0) {
                Poly by = links[last];
                int drop = links[last - 1].degree - by.degree;
                bench.work.load(links[last - 1]);
                bench.reduce(by);
                if (bench.work.degree < 0) {
                    return;
                }
                power.load(lead);
                raise(height, drop);
                bench.divideAll(bench.work, power);
                bench.work.negate();
                links[last + 1].load(bench.work);
                follow(by, drop);
                last++;
            }
        }

        /** Multiplies power by x as often as told. */
        private void raise(Whole x, int times) {
            for (int i = 0; i < times; i++) {
                next.product(power, x);
                power.load(next);
            }
        }

        /** The factors of the next link: lead is the last one's, height is lead^drop height^(1 - drop). */
        private void follow(Poly by, int drop) {
            if (by.degree < 0) {
                return;
            }
            lead.load(by.terms[by.degree]);
            if (lead.sign < 0) {
                lead.negate();
            }
            if (drop < 1) {
                return;
            }
            power.setOne();
            raise(lead, drop);
            for (int i = 1; i < drop; i++) {
                power.divide(height, next);
                power.load(next);
            }
            height.load(power);
        }

        /** Puts the primitive common divisor of the first two links into the last one. */
        private Poly divisorAtEnd() {
            Poly end = links[last];
            if (end.degree < 1) {
                end.setOne();
            } else {
                bench.makeSmall(end, links[0], links[1]);
                bench.makePrimitive(end);
            }
            return end;
        }

        /** The changes of sign along the chain at a point, or beyond all roots on its side of 0. */
        int changes(long point, boolean beyond) {
            int count = 0;
            int before = 0;
            for (int i = 0; i <= last; i++) {
                int now = beyond ? links[i].signBeyond(point) : bench.signAt(links[i], point, 1);
                if (now * before < 0) {
                    count++;
                }
                before = now == 0 ? before : now;
            }
            return count;
        }

        /** The floor of root k, or Long.MIN_VALUE if there is none or it is not above the least int. */
        long floorOfRoot(int k) {
            int far = changes(-1, true);
            long low = Integer.MIN_VALUE + 1L;
            long high = Integer.MAX_VALUE + 1L;
            if (rootsBelow(low, far) > k || rootsBelow(high, far) <= k) {
                return Long.MIN_VALUE;
            }
            for (int turn = 0; turn < MOST_HALVINGS && high - low > 1; turn++) {
                long middle = low + (high - low) / 2;
                if (rootsBelow(middle, far) <= k) {
                    low = middle;
                } else {
                    high = middle;
                }
            }
            return low;
        }

        private int rootsBelow(long point, int far) {
            int upTo = far - changes(point, false);
            return bench.signAt(links[0], point, 1) == 0 ? upTo - 1 : upTo;
        }
    }
}
