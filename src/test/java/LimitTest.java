import com.sun.management.ThreadMXBean;
import java.lang.management.ManagementFactory;
import java.lang.reflect.Array;
import java.lang.reflect.Field;
import java.lang.reflect.Modifier;
import java.math.BigInteger;
import java.util.Collections;
import java.util.IdentityHashMap;
import java.util.Set;

/** 512 calls on one object are answered to the last, and make nothing: all rows are made with the object. */
public final class LimitTest {
    private static final int CALLS = 512;
    private static final int MOST_OBJECTS = 400;
    private static final int MOST_ELEMENTS = 14000;

    private static final Check check = new Check();

    public static void main(String[] args) throws Exception {
        check.about("What it is, \"An object is used for at most 512 calls after it has been made\"");
        words();
        BigInteger[] full = new Dice(512).poly(8, Model.MOST_BITS);
        dearest(full);
        nothingMade(full);
        size();
        check.end();
    }

    /** The last calls add to what the first ones began, and read it. */
    private static void words() {
        BigPolys p = new BigPolys();
        p.coefficient(0, 8, -1);
        p.word(5);
        for (int call = 3; call <= CALLS - 3; call++) {
            check.due("call " + call, -1, p.degree(1 + call % 7));
        }
        check.due("call 510", true, p.word(6));
        check.due("call 511", 5, p.wordOf(0, 8, 0));
        check.due("call 512", 6, p.wordOf(0, 8, 1));
    }

    /** The dearest calls; two registers are filled with fewer than 200. */
    private static void dearest(BigInteger[] full) {
        BigPolys p = new BigPolys();
        Polys.put(p, 0, full);
        Polys.put(p, 1, Model.primitive(full));
        int all = Model.allRoots(full);
        long place = Model.place(full, 0);
        for (int call = 200; call < CALLS; call += 4) {
            check.due("once", 0, p.once(2, 0));
            check.due("once", true, p.same(1, 2));
            check.due("allRoots", all, p.allRoots(0));
            check.due("place", place, p.place(0, 0));
        }
    }

    private static void nothingMade(BigInteger[] full) {
        ThreadMXBean threads = (ThreadMXBean) ManagementFactory.getThreadMXBean();
        long me = Thread.currentThread().getId();
        BigPolys p = new BigPolys();
        Polys.put(p, 0, full);
        Polys.put(p, 1, Polys.poly(-6, 1, 1));
        every(p);
        long before = threads.getThreadAllocatedBytes(me);
        for (int turn = 0; turn < 10; turn++) {
            every(p);
        }
        long made = threads.getThreadAllocatedBytes(me) - before;
        check.due("calls make less than a row", true, made < 1000);
    }

    /** All calls of the face, 24 in all. */
    private static void every(BigPolys p) {
        p.coefficient(7, 8, -1);
        p.word(1);
        p.add(2, 0, 1, true);
        p.multiply(3, 1, 1);
        p.derive(3, 0);
        p.shift(3, 1, -7);
        p.remainder(3, 0, 1);
        p.remainder(3, 3, 1);
        p.quotient(3, 0, 1);
        p.quotient(3, 1, 1);
        p.gcd(3, 0, 1);
        p.gcd(3, 1, 0);
        p.once(3, 0);
        p.sign(0, 5, -7);
        p.roots(0, -9, 9);
        p.allRoots(0);
        p.place(0, 0);
        p.place(1, 1);
        p.degree(0);
        p.signOf(0, 8);
        p.words(0, 8);
        p.wordOf(0, 8, 5);
        p.same(0, 1);
        p.degree(9);
    }

    /** What an object is made of: so a run may make hundreds of them. */
    private static void size() throws IllegalAccessException {
        Set<Object> seen = Collections.newSetFromMap(new IdentityHashMap<>());
        long elements = walk(new BigPolys(), seen);
        check.due("objects: " + seen.size(), true, seen.size() <= MOST_OBJECTS);
        check.due("elements: " + elements, true, elements <= MOST_ELEMENTS);
    }

    private static long walk(Object object, Set<Object> seen) throws IllegalAccessException {
        if (object == null || !seen.add(object)) {
            return 0;
        }
        return object.getClass().isArray() ? walkRow(object, seen) : walkFields(object, seen);
    }

    private static long walkRow(Object row, Set<Object> seen) throws IllegalAccessException {
        long count = Array.getLength(row);
        if (!row.getClass().getComponentType().isPrimitive()) {
            for (int i = 0; i < Array.getLength(row); i++) {
                count += walk(Array.get(row, i), seen);
            }
        }
        return count;
    }

    private static long walkFields(Object object, Set<Object> seen) throws IllegalAccessException {
        long count = 0;
        for (Field field : object.getClass().getDeclaredFields()) {
            if (Modifier.isStatic(field.getModifiers())) {
                continue;
            }
            count++;
            field.setAccessible(true);
            if (!field.getType().isPrimitive()) {
                count += walk(field.get(object), seen);
            }
        }
        return count;
    }
}
