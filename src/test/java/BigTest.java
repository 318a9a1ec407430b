import java.lang.reflect.Constructor;
import java.lang.reflect.Field;
import java.lang.reflect.Method;
import java.math.BigInteger;
import java.util.Random;

/** The whole numbers inside, reached by reflection: limbs that are all or nothing, so that seldom ways are gone. */
public final class BigTest {
    private static final int LIMBS = 40;
    private static final Random RANDOM = new Random(7);
    private static Class<?> type;
    private static int wrong;

    private BigTest() {
    }

    public static void main(String[] args) throws ReflectiveOperationException {
        for (Class<?> c : GridHouse.class.getDeclaredClasses()) {
            type = c.getSimpleName().equals("Big") ? c : type;
        }
        int runs = Check.isBuiltWith("Big") ? 60000 : 0;
        for (int i = 0; i < runs && wrong < 5; i++) {
            divide();
            sums();
        }
        System.out.println(wrong == 0 ? runs + " divisions and sums are right" : "wrong numbers");
        if (wrong != 0) {
            System.exit(1);
        }
    }

    private static Object big(BigInteger v) throws ReflectiveOperationException {
        Constructor<?> make = type.getDeclaredConstructor(int.class);
        make.setAccessible(true);
        Object b = make.newInstance(LIMBS);
        long[] limb = (long[]) field("limb").get(b);
        BigInteger left = v.abs();
        int size = 0;
        while (left.signum() > 0) {
            limb[size++] = left.longValue() & (1L << 30) - 1;
            left = left.shiftRight(30);
        }
        field("size").setInt(b, size);
        field("minus").setBoolean(b, v.signum() < 0);
        return b;
    }

    private static Field field(String name) throws ReflectiveOperationException {
        Field f = type.getDeclaredField(name);
        f.setAccessible(true);
        return f;
    }

    private static BigInteger value(Object b) throws ReflectiveOperationException {
        long[] limb = (long[]) field("limb").get(b);
        int size = field("size").getInt(b);
        BigInteger v = BigInteger.ZERO;
        for (int i = size - 1; i >= 0; i--) {
            v = v.shiftLeft(30).add(BigInteger.valueOf(limb[i]));
        }
        if (size > 0 && limb[size - 1] == 0 || size == 0 && field("minus").getBoolean(b)) {
            return null;
        }
        return field("minus").getBoolean(b) ? v.negate() : v;
    }

    private static void call(String name, Object on, Object... with) throws ReflectiveOperationException {
        for (Method m : type.getDeclaredMethods()) {
            if (m.getName().equals(name)) {
                m.setAccessible(true);
                m.invoke(on, with);
            }
        }
    }

    private static BigInteger random(int limbs) {
        BigInteger v = BigInteger.ZERO;
        int n = RANDOM.nextInt(limbs + 1);
        for (int i = 0; i < n; i++) {
            long top = (1L << 30) - 1;
            long[] of = {0, 1, top, top - 1, 1L << 29, (1L << 29) - 1, RANDOM.nextInt(1 << 30), RANDOM.nextInt(4)};
            v = v.shiftLeft(30).add(BigInteger.valueOf(of[RANDOM.nextInt(of.length)]));
        }
        return v;
    }

    private static void is(String what, BigInteger due, Object got) throws ReflectiveOperationException {
        if (!due.equals(value(got))) {
            wrong++;
            System.out.println(what + " is " + value(got) + ", due is " + due);
        }
    }

    private static void divide() throws ReflectiveOperationException {
        BigInteger d = random(6).add(BigInteger.ONE);
        BigInteger q = random(6);
        BigInteger a = RANDOM.nextBoolean() ? random(10) : d.multiply(q).add(random(8).mod(d));
        if (RANDOM.nextInt(3) == 0) {
            a = d.multiply(q).subtract(BigInteger.ONE).max(BigInteger.ZERO);
        }
        Object x = big(a);
        Object by = big(d);
        Object quotient = big(BigInteger.TEN);
        call("divide", x, by, quotient);
        is(a + " by " + d, a.divide(d), quotient);
        is(a + " left by " + d, a.mod(d), x);
        is("the divisor stays", d, by);
    }

    private static void sums() throws ReflectiveOperationException {
        BigInteger a = RANDOM.nextBoolean() ? random(8) : random(8).negate();
        BigInteger b = RANDOM.nextInt(9) == 0 ? a : RANDOM.nextBoolean() ? random(8) : random(8).negate();
        Object x = big(a);
        call("more", x, big(b));
        is(a + " and " + b, a.add(b), x);
        x = big(a);
        call("less", x, big(b));
        is(a + " less " + b, a.subtract(b), x);
        x = big(BigInteger.TEN);
        call("product", x, big(a), big(b));
        is(a + " times " + b, a.multiply(b), x);
        long f = RANDOM.nextInt() * (RANDOM.nextBoolean() ? 1L : 0);
        x = big(a);
        call("scale", x, f);
        is(a + " times " + f, a.multiply(BigInteger.valueOf(f)), x);
        x = big(a.abs());
        call("moreTimes", x, big(b.abs()), Math.abs(f));
        is("with " + f + " times", a.abs().add(b.abs().multiply(BigInteger.valueOf(Math.abs(f)))), x);
    }
}
