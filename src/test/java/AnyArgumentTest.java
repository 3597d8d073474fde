import java.lang.reflect.Method;
import java.lang.reflect.Modifier;
import java.util.ArrayList;
import java.util.Comparator;
import java.util.List;
import java.util.Random;

/** No call throws or fails to end, whatever its arguments and whatever came before: a throw ends this with 1. */
public final class AnyArgumentTest {
    private static final Due DUE = new Due("AnyArgumentTest");
    private static final int OBJECTS = 600, CALLS = 512 - 80;
    private static final int[] FAR = {Integer.MIN_VALUE, Integer.MIN_VALUE + 1, -2000000000, -65536, -257, -256, -129,
        -128, -101, -100, -61, -60, -31, -30, -11, -10, -9, -3, -2, -1, 29, 30, 31, 48, 49, 50, 59, 60, 61, 99, 100, 119,
        120, 121, 127, 128, 255, 256, 529, 530, 599, 600, 2929, 2930, 3024, 3025, 3101, 4095, 4096, 32767, 32768, 65536,
        Integer.MAX_VALUE - 2, Integer.MAX_VALUE - 1, Integer.MAX_VALUE};

    public static void main(String[] args) throws ReflectiveOperationException {
        List<Method> calls = new ArrayList<>();
        for (Method method : EiderClimate.class.getDeclaredMethods()) {
            if (Modifier.isPublic(method.getModifiers())) {
                calls.add(method);
            }
        }
        // the machine gives them in no told order, and the same run must come each time
        calls.sort(Comparator.comparing(Method::getName));
        DUE.is("calls", calls.size(), 38);
        Random draws = new Random(11);
        for (int i = 0; i < OBJECTS; i++) {
            EiderClimate x = new EiderClimate();
            if (i % 2 == 0) {
                Edge.live(x);
            }
            for (int k = 0; k < CALLS; k++) {
                answered(x, calls.get(draws.nextInt(calls.size())), draws);
            }
        }
        DUE.end();
    }

    private static void answered(EiderClimate x, Method call, Random draws) throws ReflectiveOperationException {
        Object[] arguments = new Object[call.getParameterCount()];
        for (int k = 0; k < arguments.length; k++) {
            int v = draws.nextInt(3) > 0 ? draws.nextInt(10) : FAR[draws.nextInt(FAR.length)];
            boolean isLong = call.getParameterTypes()[k] == long.class;
            arguments[k] = isLong ? (Object) (v * (draws.nextBoolean() ? 1L : 1L << 33)) : (Object) v;
        }
        DUE.holds(call.getName() + " answers a number", call.invoke(x, arguments) instanceof Number);
    }
}
