import java.lang.reflect.InvocationTargetException;
import java.lang.reflect.Method;
import java.lang.reflect.Modifier;
import java.util.Arrays;
import java.util.Comparator;

/** Every method with wild numbers in several states: none may throw. */
public final class WildTest {
    private static final Check CHECK = new Check("WildTest");
    private static final int[] WILD = {Integer.MIN_VALUE, -4, -1, 0, 1, 3, 6, 10, 20, 41, Integer.MAX_VALUE};
    private static final int[] FEW = {Integer.MIN_VALUE, -1, 0, 2, 9, Integer.MAX_VALUE};
    private static final int CALLS = 300;

    private static ProofFine x;
    private static int state;
    private static int left;

    public static void main(String[] args) throws IllegalAccessException {
        Method[] methods = ProofFine.class.getDeclaredMethods();
        Arrays.sort(methods, Comparator.comparing(Method::getName));
        for (state = 0; state < 4; state++) {
            left = 0;
            for (Method method : methods) {
                if (Modifier.isPublic(method.getModifiers())) {
                    callAll(method, new Object[method.getParameterCount()], 0);
                }
            }
        }
        CHECK.end();
    }

    private static ProofFine inState() {
        ProofFine made = new ProofFine();
        if (state > 0) {
            Check.tell(made, "village 20 0;village 9 1;village 99 0;village 0 0;plain 0 0 0;river 1 9 9;mixed 2 1 1;");
            made.see(0, 3, 1);
        }
        if (state > 1) {
            made.keep(0);
            made.nights(5);
            made.sheet(1, 1, 40);
        }
        if (state > 2) {
            made.find(3, 3, 0, 0);
            made.find(2, 3, 0, 0);
            made.find(1, 3, 0, 0);
            made.sheet(0, 2, 40);
        }
        return made;
    }

    private static void callAll(Method method, Object[] args, int i) throws IllegalAccessException {
        if (i == args.length) {
            call(method, args);
            return;
        }
        for (int wild : args.length > 3 ? FEW : WILD) {
            args[i] = wild;
            callAll(method, args, i + 1);
        }
    }

    private static void call(Method method, Object[] args) throws IllegalAccessException {
        if (left == 0) {
            x = inState();
            left = CALLS;
        }
        left--;
        boolean ended = true;
        try {
            method.invoke(x, args);
        } catch (InvocationTargetException e) {
            ended = false;
        }
        CHECK.holds(method.getName() + Arrays.toString(args) + " came to an end", ended);
    }
}
