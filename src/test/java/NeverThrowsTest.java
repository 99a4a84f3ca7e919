import java.lang.reflect.Method;
import java.lang.reflect.Modifier;
import java.util.Random;

/** No method throws or fails to end, for any arguments in any state, also beyond the 512th call. */
public final class NeverThrowsTest {
    private static final Check check = new Check();
    private static final int[] EDGES = {0, 1, -1, 2, 3, 4, 6, 9, 59, 60, 99, 100, 600, 1440, 10079, 10080, 10081,
        Integer.MAX_VALUE, Integer.MIN_VALUE, 0x70617373, 0x2031203b};

    public static void main(String[] args) throws ReflectiveOperationException {
        for (int run = 0; run < 40; run++) {
            wildCalls(new Random(run));
        }
        check.finish();
    }

    private static void wildCalls(Random random) throws ReflectiveOperationException {
        HelpDesk x = new HelpDesk();
        Method[] methods = HelpDesk.class.getDeclaredMethods();
        java.util.Arrays.sort(methods, java.util.Comparator.comparing(Method::getName));
        for (int i = 0; i < 3000; i++) {
            Method method = methods[random.nextInt(methods.length)];
            if (!Modifier.isPublic(method.getModifiers())) {
                continue;
            }
            Object[] with = new Object[method.getParameterCount()];
            for (int k = 0; k < with.length; k++) {
                with[k] = method.getParameterTypes()[k] == boolean.class ? (Object) random.nextBoolean()
                        : (Object) number(random);
            }
            boolean answered = answers(x, method, with);
            check.due(0, "call " + i + " of " + method.getName(), answered, true);
            if (!answered) {
                return;
            }
        }
    }

    private static boolean answers(HelpDesk x, Method method, Object[] with) throws ReflectiveOperationException {
        try {
            method.invoke(x, with);
            return true;
        } catch (java.lang.reflect.InvocationTargetException e) {
            System.out.println(e.getCause());
            return false;
        }
    }

    private static int number(Random random) {
        int which = random.nextInt(10);
        return which < 6 ? random.nextInt(8) : which < 9 ? EDGES[random.nextInt(EDGES.length)] : random.nextInt();
    }
}
