import java.lang.reflect.InvocationTargetException;
import java.lang.reflect.Method;
import java.lang.reflect.Modifier;
import java.util.ArrayList;
import java.util.Arrays;
import java.util.Comparator;
import java.util.List;
import java.util.NoSuchElementException;
import java.util.Random;

/** Any ints to any call, in any state that such calls lead to: no call throws but those that may, and those only as told. */
public final class AnyArgumentsTests {
    private static final int OBJECTS = 400;
    private static final int CALLS = 512;
    private static final int[] FAR = {Integer.MIN_VALUE, Integer.MIN_VALUE + 1, -100000, -17, -2, -1, 6, 7, 8, 15, 16, 17, 23, 24,
        25, 31, 32, 40, 41, 60, 61, 63, 64, 65, 200, 201, 300, 301, 9999, 10000, 99999, 100000, 100001, 999999, 1000000,
        Integer.MAX_VALUE - 1, Integer.MAX_VALUE};

    public static void main(String[] args) throws IllegalAccessException {
        List<Method> face = face();
        int wrong = 0;
        for (int seed = 0; seed < OBJECTS && wrong < 5; seed++) {
            wrong += play(face, new Random(seed)) ? 0 : 1;
        }
        System.out.println(wrong == 0 ? "no call throws by itself" : "a call throws by itself");
        if (wrong != 0) {
            System.exit(1);
        }
    }

    /** In one order always, which reflection does not promise; tell and run thrice, so that much happens. */
    private static List<Method> face() {
        List<Method> face = new ArrayList<>();
        for (Method method : BarrelSlots.class.getDeclaredMethods()) {
            if (Modifier.isPublic(method.getModifiers())) {
                boolean often = method.getName().equals("tell") || method.getName().equals("run");
                for (int i = 0; i < (often ? 3 : 1); i++) {
                    face.add(method);
                }
            }
        }
        face.sort(Comparator.comparing(Method::getName));
        return face;
    }

    private static boolean play(List<Method> face, Random random) throws IllegalAccessException {
        BarrelSlots b = new BarrelSlots();
        for (int call = 0; call < CALLS; call++) {
            Method method = face.get(random.nextInt(face.size()));
            Object[] arguments = arguments(random, method);
            try {
                method.invoke(b, arguments);
            } catch (InvocationTargetException e) {
                boolean told = method.getExceptionTypes().length == 1 && e.getCause().getClass() == NoSuchElementException.class;
                if (!told) {
                    System.out.println(method.getName() + Arrays.toString(arguments) + " throws " + e.getCause());
                    return false;
                }
            }
        }
        return true;
    }

    private static Object[] arguments(Random random, Method method) {
        Object[] arguments = new Object[method.getParameterCount()];
        for (int i = 0; i < arguments.length; i++) {
            if (method.getParameterTypes()[i] == boolean.class) {
                arguments[i] = random.nextBoolean();
            } else if (random.nextInt(8) == 0) {
                arguments[i] = random.nextBoolean() ? FAR[random.nextInt(FAR.length)] : random.nextInt();
            } else {
                arguments[i] = random.nextInt(i == 1 && method.getName().equals("tell") ? 21 : 8);
            }
        }
        return arguments;
    }
}
