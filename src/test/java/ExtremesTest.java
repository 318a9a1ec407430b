import java.lang.reflect.InvocationTargetException;
import java.lang.reflect.Method;
import java.lang.reflect.Modifier;
import java.util.Arrays;
import java.util.Comparator;
import java.util.Random;

/** All methods with numbers from the ends of what an int can be: nothing is thrown but what each one declares. */
public final class ExtremesTest {
    private static final int[] NUMBERS = {Integer.MIN_VALUE, Integer.MIN_VALUE + 1, -100000, -2, -1, 0, 0, 0, 0, 1, 1, 1, 2, 2,
        3, 3, 4, 5, 6, 7, 9, 11, 12, 15, 16, 17, 20, 24, 32, 64, 99, 100, 255, 4000, 9999, 99999, 100000, 9999999,
        Integer.MAX_VALUE - 1, Integer.MAX_VALUE};

    private ExtremesTest() {
    }

    public static void main(String[] args) throws ReflectiveOperationException {
        Random random = new Random(11);
        Method[] methods = Arrays.stream(GridHouse.class.getDeclaredMethods())
                .filter(m -> Modifier.isPublic(m.getModifiers()))
                .sorted(Comparator.comparing(Method::getName)).toArray(Method[]::new);
        int wrong = 0;
        int calls = 0;
        for (int run = 0; run < 400 && wrong < 5; run++) {
            GridHouse x = new GridHouse();
            Texts texts = new Texts(random);
            if (run % 4 != 0) {
                Check.net(x, texts.net(run % 3));
                Check.rules(x, texts.rules());
                Check.order(x, texts.order());
            }
            for (int i = 0; i < 400; i++) {
                Method m = methods[random.nextInt(methods.length)];
                Object[] with = new Object[m.getParameterCount()];
                for (int k = 0; k < with.length; k++) {
                    with[k] = m.getParameterTypes()[k] == boolean.class ? (Object) random.nextBoolean()
                            : (Object) NUMBERS[random.nextInt(NUMBERS.length)];
                }
                calls++;
                if (m.getName().equals("net") && random.nextInt(20) != 0) {
                    continue;
                }
                try {
                    m.invoke(x, with);
                } catch (InvocationTargetException e) {
                    if (!Arrays.asList(m.getExceptionTypes()).contains(e.getCause().getClass())) {
                        wrong++;
                        System.out.println(m.getName() + Arrays.toString(with) + " throws " + e.getCause());
                    }
                }
            }
        }
        System.out.println(wrong == 0 ? calls + " calls throw what is declared or nothing" : "wrong exceptions");
        if (wrong != 0) {
            System.exit(1);
        }
    }
}
