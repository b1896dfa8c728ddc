import java.lang.reflect.InvocationTargetException;
import java.lang.reflect.Method;
import java.lang.reflect.Modifier;
import java.util.ArrayList;
import java.util.Arrays;
import java.util.Comparator;
import java.util.List;
import java.util.Random;

/** Rules 7 and 13 of LANGUAGE.md: whatever is asked, no call throws, and the same calls get the same answers. */
public final class PitPactWild {
    private static final int RUNS = 2000, CALLS = 512;
    private static final int[] ODD = {Integer.MIN_VALUE, Integer.MIN_VALUE + 1, Integer.MAX_VALUE, -1000000, -10, -6, -5,
        -4, -1, 0, 1, 8, 9, 10, 12, 24, 1 << 30};
    private static final List<Method> METHODS = new ArrayList<>();
    private static int wrong = 0;
    private static long asked = 0;

    private static Object anyArgument(Class<?> type, Random random) {
        if (type == boolean.class) {
            return random.nextBoolean();
        }
        switch (random.nextInt(12)) {
            case 0: return ODD[random.nextInt(ODD.length)];
            case 1: return random.nextInt();
            case 2: return 33 + random.nextInt(94);
            case 3: case 4: case 5: return random.nextInt(101);
            default: return random.nextInt(8);
        }
    }

    private static void tell(String what) {
        wrong++;
        if (wrong <= 5) {
            System.out.println("wild: " + what);
        }
    }

    private static void run(int number) throws IllegalAccessException {
        Random random = new Random(number);
        PitPact one = new PitPact();
        PitPact other = new PitPact();
        for (int i = 0; i < CALLS; i++) {
            Method method = METHODS.get(random.nextInt(METHODS.size()));
            Object[] arguments = new Object[method.getParameterCount()];
            for (int k = 0; k < arguments.length; k++) {
                arguments[k] = anyArgument(method.getParameterTypes()[k], random);
            }
            asked++;
            String call = "run " + number + ": " + method.getName() + Arrays.toString(arguments);
            try {
                if (!method.invoke(one, arguments).equals(method.invoke(other, arguments))) {
                    tell(call + " is answered in two ways");
                }
            } catch (InvocationTargetException e) {
                tell(call + " throws " + e.getCause());
            }
        }
    }

    public static void main(String[] args) throws IllegalAccessException {
        for (Method m : PitPact.class.getDeclaredMethods()) {
            if (Modifier.isPublic(m.getModifiers())) {
                METHODS.add(m);
            }
        }
        // the machine may list them in any order, and a run has to be the same each time
        METHODS.sort(Comparator.comparing(Method::getName));
        for (int i = 0; i < RUNS; i++) {
            run(i);
        }
        System.out.println("wild: " + asked + " calls on two objects each, " + wrong + " wrong");
        if (wrong != 0) {
            System.exit(1);
        }
    }
}
