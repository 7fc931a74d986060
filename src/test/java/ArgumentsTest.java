import java.math.BigInteger;

/** Every call with every mixture of edge arguments, in several states: none throws, all answer as the model does. */
public final class ArgumentsTest {
    private static final int[] EDGES = {
        Integer.MIN_VALUE, Integer.MIN_VALUE + 1, -1, 0, 1, 2, 7, 8, 9, Integer.MAX_VALUE - 1, Integer.MAX_VALUE,
    };
    private static final int CALLS = 18;
    private static final int STATES = 4;

    /** An object may be asked 512 times: its registers are filled with at most 80 calls. */
    private static final int TURNS = 400;

    private final Check check;
    private final int state;
    private Twin twin;
    private int turns = TURNS;

    private ArgumentsTest(Check check, int state) {
        this.check = check;
        this.state = state;
    }

    public static void main(String[] args) {
        Check check = new Check();
        for (int state = 0; state < STATES; state++) {
            ArgumentsTest test = new ArgumentsTest(check, state);
            for (int call = 0; call < CALLS; call++) {
                test.all(call);
            }
        }
        check.end();
    }

    private void all(int call) {
        for (int a : EDGES) {
            for (int b : EDGES) {
                for (int c : EDGES) {
                    turn();
                    ask(call, a, b, c);
                }
            }
        }
    }

    private void turn() {
        if (turns == TURNS) {
            twin = new Twin(check, "state " + state);
            fill();
            turns = 0;
        }
        turns++;
    }

    /** 0: new; 1: small ones; 2: full ones, and a coefficient at hand; 3: six words have come to what is at hand. */
    private void fill() {
        if (state == 1) {
            twin.put(0, Polys.poly(-2, 0, 1));
            twin.put(1, Polys.poly(0, -6, 3, 3));
            twin.put(7, Polys.poly(1, -2, 1));
        }
        if (state == 2) {
            twin.put(0, Polys.poly(1, -8, 28, -56, 70, -56, 28, -8, 1));
            twin.put(1, new BigInteger[] {Polys.FULL, Polys.FULL.negate()});
            twin.coefficient(2, 8, -1);
        }
        if (state == 3) {
            twin.put(7, Polys.term(Polys.FULL, 8));
        }
    }

    private void ask(int call, int a, int b, int c) {
        switch (call) {
            case 0 -> twin.coefficient(a, b, c);
            case 1 -> twin.word(a);
            case 2 -> twin.add(a, b, c, a > b);
            case 3 -> twin.multiply(a, b, c);
            case 4 -> twin.derive(a, b);
            case 5 -> twin.shift(a, b, c);
            case 6 -> twin.remainder(a, b, c);
            case 7 -> twin.quotient(a, b, c);
            case 8 -> twin.gcd(a, b, c);
            case 9 -> twin.once(a, b);
            case 10 -> twin.sign(a, b, c);
            case 11 -> twin.roots(a, b, c);
            case 12 -> twin.allRoots(a);
            case 13 -> twin.place(a, b);
            case 14 -> twin.signOf(a, b);
            case 15 -> twin.words(a, b);
            case 16 -> twin.wordOf(a, b, c);
            default -> twin.same(a, b);
        }
    }
}
