import java.lang.reflect.InvocationTargetException;
import java.lang.reflect.Method;
import java.lang.reflect.Modifier;
import java.util.ArrayList;
import java.util.Comparator;
import java.util.List;
import java.util.Random;

/**
 * No call ever throws by itself, with any numbers in any state, also behind the 512th call: what it throws is of just a
 * class that its face names, comes from a throw of the program's own, and leaves the object as it was.
 */
public final class AnyNumbersTest {
    private static final int RUNS = 60;
    private static final int CALLS = 4000;
    private static final int[] FAR = {Integer.MIN_VALUE, Integer.MIN_VALUE + 1, -1000, -1, 12, 25, 26, 40, 41, 59, 60, 61,
        199, 200, 201, 511, 512, 999, 1000, 2399, 2400, Integer.MAX_VALUE - 1, Integer.MAX_VALUE};

    private static final List<String> DULLING = List.of("setRight", "delete", "take", "remove");

    private final Check check = new Check();
    private final List<Method> calls = new ArrayList<>();
    private int edited;
    private int noted;

    public static void main(String[] args) throws IllegalAccessException {
        new AnyNumbersTest().all();
    }

    private void all() throws IllegalAccessException {
        for (Method method : Marginalia.class.getDeclaredMethods()) {
            if (Modifier.isPublic(method.getModifiers())) {
                calls.add(method);
            }
        }
        calls.sort(Comparator.comparing(Method::getName));
        for (int run = 0; run < RUNS; run++) {
            run(run, new Random(run));
        }
        check.is("some runs come to the end of the edits, and some to that of the notes", edited > 0 && noted > 0);
        check.finish();
    }

    /** Each third run begins without users and text; half of them are without the calls that leave little to do. */
    private void run(int run, Random random) throws IllegalAccessException {
        Marginalia x = run % 3 == 0 ? new Marginalia() : Edges.owners(1 + run % 6);
        for (int call = 0; call < CALLS; call++) {
            Method method = calls.get(random.nextInt(calls.size()));
            if (run % 2 == 0 && DULLING.contains(method.getName())) {
                continue;
            }
            Object[] numbers = new Object[method.getParameterCount()];
            for (int i = 0; i < numbers.length; i++) {
                boolean isFlag = method.getParameterTypes()[i] == boolean.class;
                numbers[i] = isFlag ? (Object) random.nextBoolean() : (Object) number(random);
            }
            call("run " + run + " call " + call + ": ", x, method, numbers);
        }
        edited += x.version() == 60 ? 1 : 0;
    }

    private static int number(Random random) {
        int dice = random.nextInt(8);
        return dice == 0 ? FAR[random.nextInt(FAR.length)] : dice == 1 ? random.nextInt(64) : random.nextInt(6);
    }

    private void call(String at, Marginalia x, Method method, Object[] numbers) throws IllegalAccessException {
        String what = at + method.getName() + List.of(numbers);
        long before = x.digest();
        try {
            Object answer = method.invoke(x, numbers);
            check.is(what + " answers", answer != null);
            noted += List.of("note", "reply").contains(method.getName()) && answer.equals(59) ? 1 : 0;
        } catch (InvocationTargetException e) {
            Throwable thrown = e.getCause();
            check.is(what + " may throw " + thrown, List.of(method.getExceptionTypes()).contains(thrown.getClass()));
            StackTraceElement[] from = thrown.getStackTrace();
            boolean isOwn = from.length > 0 && from[0].getClassName().equals("Marginalia");
            check.is(what + " throws by a throw of its own", isOwn);
            check.same(what + " throws, and then digest", before, x.digest());
        }
    }
}
