import java.lang.reflect.InvocationTargetException;
import java.lang.reflect.Method;
import java.lang.reflect.Modifier;
import java.util.Arrays;
import java.util.Comparator;
import java.util.Random;

/** Every call with any ints, in many states: it ends, and throws just what its signature names, no class below it. */
public final class AnyIntTest {
    private static final int[] ANY = {Integer.MIN_VALUE, Integer.MIN_VALUE + 1, -1000001, -1001, -33, -2, -1, 0, 0, 0, 1, 1, 2, 3,
        4, 5, 6, 7, 8, 9, 11, 12, 13, 14, 15, 25, 26, 31, 32, 33, 80, 100, 101, 200, 201, 399, 400, 401, 999, 1000, 1001, 4095, 4096,
        100000, 100001, 1 << 20, 1 << 30, Integer.MAX_VALUE - 1, Integer.MAX_VALUE};
    private static final String[] TEXTS = {
        "move 0.0 4,1.0 -32 in 200 both;say 0 abc at 0;camera pan 9999 in 400 soft;rig 0 on;hold 200;",
        "repeat 4[hold 1;tie 1;free 0;rig 1 off;];say 1 zz at 400;", "hold 9;", "repeat 5[x", "move 7.11 3 in 2;"};

    private static int wrong;

    public static void main(String[] args) throws IllegalAccessException {
        Method[] methods = Arrays.stream(PuppetFilm.class.getDeclaredMethods())
                .filter(m -> Modifier.isPublic(m.getModifiers()))
                .sorted(Comparator.comparing(Method::getName))
                .toArray(Method[]::new);
        int runs = args.length > 0 ? Integer.parseInt(args[0]) : 2000;
        for (int seed = 0; seed < runs && wrong < 5; seed++) {
            run(new Random(seed), methods);
        }
        System.out.println(wrong == 0 ? "no call throws by itself in " + runs + " runs" : "some calls throw by themselves");
        if (wrong != 0) {
            System.exit(1);
        }
    }

    private static void run(Random random, Method[] methods) throws IllegalAccessException {
        PuppetFilm x = new PuppetFilm();
        for (int calls = random.nextInt(4); calls < 480; calls++) {
            if (calls % 12 == 0) {
                calls += tell(x, TEXTS[random.nextInt(TEXTS.length)]);
            }
            Method method = methods[random.nextInt(methods.length)];
            Object[] numbers = new Object[method.getParameterCount()];
            for (int i = 0; i < numbers.length; i++) {
                boolean near = random.nextInt(3) > 0;
                numbers[i] = method.getParameterTypes()[i] == boolean.class ? (Object) random.nextBoolean()
                        : near ? (Object) (random.nextInt(4) - (random.nextInt(8) == 0 ? 1 : 0)) : (Object) ANY[random.nextInt(ANY.length)];
            }
            call(x, method, numbers);
        }
    }

    private static int tell(PuppetFilm x, String text) {
        int fed = 0;
        for (int at = 0; at < text.length(); at += 20) {
            int[] n = new int[5];
            for (int i = 0; i < 20; i++) {
                n[i / 4] = n[i / 4] << 8 | (at + i < text.length() ? text.charAt(at + i) : ' ');
            }
            x.feed(n[0], n[1], n[2], n[3], n[4]);
            fed++;
        }
        try {
            x.shot(x.count(4));
        } catch (IllegalStateException e) {
            // There are 12.
        }
        return fed + 2;
    }

    private static void call(PuppetFilm x, Method method, Object[] numbers) throws IllegalAccessException {
        try {
            method.invoke(x, numbers);
        } catch (InvocationTargetException e) {
            if (!Arrays.asList(method.getExceptionTypes()).contains(e.getCause().getClass())) {
                wrong++;
                System.out.println(method.getName() + Arrays.toString(numbers) + " throws " + e.getCause());
            }
        }
    }
}
