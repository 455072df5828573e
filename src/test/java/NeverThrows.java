import java.lang.reflect.InvocationTargetException;
import java.lang.reflect.Method;
import java.lang.reflect.Modifier;
import java.util.ArrayList;
import java.util.Arrays;
import java.util.Comparator;
import java.util.List;

/**
 * No call throws, whatever its numbers, in whatever state, behind the 512th call too; and the same calls give the same
 * answers on two objects.
 */
public final class NeverThrows {
    private static final String[] NETS = {
        "", "B00", "B99J00", "B00J01W0100", "B00J00J00", "B52J60J31J81J11P01P12P23P30W0212W2100",
        "B00J01J01J01J01J01J01P01P12P23P34P45P50P02P13W0100W0100W0100",
        "B90J01J01J01J01P01P13P32P20W1130W3121W2123W0132", "B09J90J00J00J00J00J00P01P12P23P34P45W0900W5935W3920W1915",
        "B", "B00J", "B00J00P", "B00J02", "Q",
    };
    private static final int[] INTS = {
        0, 1, 2, 3, 4, 5, 6, 7, 8, 9, 10, 11, 30, 31, 32, 33, 40, 63, 64, 99, 100, 255, 256, 9999, 10203040, 99999999, 100000000,
        -1, -2, -3, -4, -9, -31, -32, Integer.MIN_VALUE, Integer.MAX_VALUE,
    };
    /** For calls with three numbers, of which all together would be too many. */
    private static final int[] FEW_INTS = {0, 1, 3, 6, 9, 10, 31, 32, -1, -9, Integer.MIN_VALUE, Integer.MAX_VALUE};
    private static final long[] LONGS = {0, 1, -1, 1L << 33, Long.MIN_VALUE, Long.MAX_VALUE};

    private static int wrong = 0;
    private static long made = 0;

    private final ManholeBirths x = new ManholeBirths(), twin = new ManholeBirths();

    public static void main(String[] args) {
        List<Method> methods = new ArrayList<>();
        for (Method m : ManholeBirths.class.getDeclaredMethods()) {
            if (Modifier.isPublic(m.getModifiers())) methods.add(m);
        }
        methods.sort(Comparator.comparing(Method::getName));
        for (String net : NETS) new NeverThrows().run(net, methods);
        System.out.println(made + " calls made, " + wrong + " wrong");
        if (wrong != 0) System.exit(1);
    }

    private void run(String net, List<Method> methods) {
        for (int steps = 0; steps <= 21; steps += 7) {
            for (Method m : methods) {
                tell(net);
                for (int i = 0; i < steps; i++) both("" + x.step(), "" + twin.step(), "step()");
                each(m, new Object[m.getParameterCount()], 0);
            }
        }
    }

    private void tell(String net) {
        x.wipe();
        twin.wipe();
        for (char c : net.toCharArray()) both("" + x.write(c), "" + twin.write(c), "write(" + c + ")");
        both("" + x.net(), "" + twin.net(), "net()");
    }

    private void each(Method m, Object[] numbers, int place) {
        if (place == numbers.length) {
            String call = m.getName() + Arrays.toString(numbers);
            both(answer(m, x, numbers, call), answer(m, twin, numbers, call), call);
            return;
        }
        Class<?> type = m.getParameterTypes()[place];
        if (type == boolean.class) {
            for (boolean is : new boolean[] {true, false}) with(m, numbers, place, is);
        } else if (type == long.class) {
            for (long number : LONGS) with(m, numbers, place, number);
        } else {
            for (int number : numbers.length > 2 ? FEW_INTS : INTS) with(m, numbers, place, number);
        }
    }

    private void with(Method m, Object[] numbers, int place, Object number) {
        numbers[place] = number;
        each(m, numbers, place + 1);
    }

    private static String answer(Method m, ManholeBirths on, Object[] numbers, String call) {
        try {
            return m.invoke(on, numbers).toString();
        } catch (InvocationTargetException e) {
            wrong++;
            System.out.println(call + " threw " + e.getCause());
        } catch (IllegalAccessException e) {
            wrong++;
            System.out.println(call + " can not be called");
        }
        return "nothing";
    }

    private static void both(String one, String other, String call) {
        made++;
        if (one.equals(other)) return;
        wrong++;
        System.out.println(call + " answered " + one + " and " + other);
    }
}
