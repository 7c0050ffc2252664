import java.lang.reflect.InvocationTargetException;
import java.lang.reflect.Method;
import java.lang.reflect.Modifier;
import java.util.ArrayList;
import java.util.Comparator;
import java.util.List;
import java.util.Random;

/** No call throws, whatever its arguments, in whatever state; and the same calls give the same answers. */
public final class NeverThrowsTest {
    private static final int[] ODD = {Integer.MIN_VALUE, Integer.MAX_VALUE, -9, -10, -1, 13, 14, 59, 60, 61, 1 << 30};

    public static void main(String[] args) throws IllegalAccessException {
        List<Method> calls = new ArrayList<>();
        for (Method m : FourLorries.class.getDeclaredMethods()) {
            if (Modifier.isPublic(m.getModifiers())) {
                calls.add(m);
            }
        }
        calls.sort(Comparator.comparing(Method::getName));
        Check.due("calls of the face", calls.size(), 34);
        for (int run = 0; run < 300; run++) {
            Check.due("run " + run + " twice", play(calls, run), play(calls, run));
        }
        Check.end("NeverThrowsTest");
    }

    private static long play(List<Method> calls, int run) throws IllegalAccessException {
        Random random = new Random(run);
        FourLorries x = new FourLorries();
        long sum = 0;
        for (int camp = random.nextInt(4); camp > 0; camp--) {
            Check.camp(x, Model.randomText(random));
        }
        for (int part = random.nextInt(13); part > 0; part--) {
            x.part(random.nextInt(3), random.nextInt(3), 1 + random.nextInt(9));
        }
        for (int i = 0; i < 400; i++) {
            Method call = calls.get(random.nextInt(calls.size()));
            Object[] given = new Object[call.getParameterCount()];
            for (int a = 0; a < given.length; a++) {
                given[a] = call.getParameterTypes()[a] == int.class ? (Object) number(random) : (Object) random.nextBoolean();
            }
            try {
                sum = 31 * sum + ((Number) call.invoke(x, given)).longValue();
            } catch (InvocationTargetException thrown) {
                Check.yes("run " + run + ": " + call.getName() + java.util.Arrays.toString(given) + " threw " + thrown.getCause(), false);
            }
        }
        return sum;
    }

    private static int number(Random random) {
        return random.nextInt(12) == 0 ? ODD[random.nextInt(ODD.length)] : random.nextInt(random.nextInt(3) == 0 ? 16 : 4);
    }
}
