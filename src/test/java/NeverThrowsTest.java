import java.lang.reflect.InvocationTargetException;
import java.lang.reflect.Method;
import java.lang.reflect.Modifier;
import java.util.Arrays;
import java.util.Comparator;
import java.util.List;
import java.util.Random;

/** Any arguments in any state: nothing is thrown but by element, and what is refused changes nothing. */
public final class NeverThrowsTest {
    private static final int[] NUMBERS = {Integer.MIN_VALUE, Integer.MIN_VALUE + 1, -1000000, -129, -61, -2, -1, 0, 1,
        2, 3, 4, 5, 6, 7, 8, 9, 10, 20, 21, 22, 31, 32, 33, 59, 60, 61, 99, 100, 101, 128, 256, 999, 1000,
        65536, 1 << 30, Integer.MAX_VALUE - 1, Integer.MAX_VALUE};
    private static final List<String> CHANGING = List.of("town", "comes", "brings", "lends", "pays", "sames", "weeks",
        "image", "restore", "keep", "row", "put", "copy");
    private static final String[] TOWNS = {"", "p5;", "p5;p9;", "p0;p3;g111;", "p4;p9;p0;g040;g101;g302;l01;l12;",
        "p1;p2;p3;p4;p5;p6;g000;g111;g222;g333;g444;g555;g660;g771;",
        "p9;p0;p9;p0;g360;g451;g252;g643;g190;g071;l01;l12;l23;l30;l41;l50;l02;l13;w01;"};

    private static int wrong = 0;

    private NeverThrowsTest() {
    }

    public static void main(String[] args) {
        Method[] calls = calls();
        Random random = new Random(7);
        for (int round = 0; round < 40 && wrong < 20; round++) {
            for (String town : TOWNS) {
                NotInTheCoin x = Due.townOf(town);
                shelves(x, random);
                for (Method call : calls) {
                    for (int i = 0; i < 12; i++) {
                        tryCall(x, call, arguments(call.getParameterCount(), random));
                    }
                }
            }
        }
        System.out.println(calls.length + " calls tried, " + wrong + " answers not as due");
        if (wrong != 0) {
            System.exit(1);
        }
        Due.end();
    }

    private static Method[] calls() {
        Method[] all = NotInTheCoin.class.getDeclaredMethods();
        Method[] calls = Arrays.stream(all).filter(m -> Modifier.isPublic(m.getModifiers())).toArray(Method[]::new);
        Arrays.sort(calls, Comparator.comparing(Method::getName));
        return calls;
    }

    private static Object[] arguments(int n, Random random) {
        Object[] arguments = new Object[n];
        for (int i = 0; i < n; i++) {
            arguments[i] = random.nextBoolean() ? random.nextInt(9) : NUMBERS[random.nextInt(NUMBERS.length)];
        }
        return arguments;
    }

    private static void shelves(NotInTheCoin x, Random random) {
        for (int d = 0; d < 8; d++) {
            if (random.nextInt(3) > 0) {
                x.row(d, random.nextInt(3), random.nextInt(random.nextBoolean() ? 9 : 101));
                for (int i = 0; i < 100; i++) {
                    x.put(d, i, random.nextInt(3) == 0 ? random.nextInt() : random.nextInt(12) - 2);
                }
            } else if (random.nextBoolean()) {
                x.keep(d, 1, random.nextInt(8), random.nextInt(10));
            }
        }
    }

    private static void tryCall(NotInTheCoin x, Method call, Object[] arguments) {
        String before = all(x);
        boolean mayChange = CHANGING.contains(call.getName());
        String told = call.getName() + Arrays.toString(arguments);
        try {
            long answer = ((Number) call.invoke(x, arguments)).longValue();
            mayChange = mayChange && answer >= 0;
        } catch (InvocationTargetException e) {
            mayChange = false;
            Class<?> thrown = e.getCause().getClass();
            boolean due = thrown == IllegalArgumentException.class || thrown == IllegalStateException.class;
            if (!call.getName().equals("element") || !due) {
                wrong++;
                System.out.println(told + " threw " + e.getCause());
            }
        } catch (IllegalAccessException e) {
            wrong++;
            System.out.println(told + " can't be called");
        }
        if (!mayChange && !all(x).equals(before)) {
            wrong++;
            System.out.println(told + " changed something");
        }
    }

    private static String all(NotInTheCoin x) {
        StringBuilder all = new StringBuilder(Due.stateOf(x));
        for (int d = 0; d < 8; d++) {
            all.append(x.cost(d)).append(',').append(x.toss(d)).append(':');
            for (int i = 0; x.copy(d, i, d, i, 1) == 1; i++) {
                all.append(Due.elementOr(x, d, i)).append(' ');
            }
        }
        return all.toString();
    }
}
