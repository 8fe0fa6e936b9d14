import java.lang.reflect.InvocationTargetException;
import java.lang.reflect.Method;
import java.util.ArrayList;
import java.util.Comparator;
import java.util.List;
import java.util.Random;

/** Any call with any numbers in any state: nothing is thrown, and a refusal changes nothing. */
final class WildTests {
    private static final int[] WILD = {-2, -1, -1, 0, 0, 0, 1, 1, 2, 2, 3, 4, 5, 6, 8, 9, 10, 11, 12, 13, 16, 17, 39, 60, 61,
        's', 'c', 'w', ';', '0', '1', '5', '9', 255, 256, 65536, Integer.MAX_VALUE, Integer.MIN_VALUE, Integer.MIN_VALUE + 1};

    public static void main(String[] args) throws IllegalAccessException {
        List<Method> calls = new ArrayList<>();
        for (Method call : RosetteShow.class.getDeclaredMethods()) {
            if (java.lang.reflect.Modifier.isPublic(call.getModifiers())) {
                calls.add(call);
            }
        }
        calls.sort(Comparator.comparing(Method::getName));
        Due.is("how many calls the face has", calls.size(), 36);
        for (int seed = 0; seed < 120; seed++) {
            run(calls, seed);
        }
        Due.end();
    }

    private static void run(List<Method> calls, int seed) throws IllegalAccessException {
        Random lots = new Random(seed);
        RosetteShow x = seed % 3 == 0 ? new RosetteShow() : Due.show("w70;s81;c92;w63", "w25;s10;c31", "0120");
        for (int i = 0; i < 450; i++) {
            Method call = calls.get(lots.nextInt(calls.size()));
            boolean isErasing = call.getName().equals("wipe") || call.getName().equals("undo");
            if (isErasing && lots.nextInt(4) != 0) {
                continue;
            }
            Object[] numbers = new Object[call.getParameterCount()];
            for (int p = 0; p < numbers.length; p++) {
                numbers[p] = WILD[lots.nextInt(lots.nextBoolean() ? 12 : WILD.length)];
            }
            once(x, call, numbers, seed);
        }
    }

    private static void once(RosetteShow x, Method call, Object[] numbers, int seed) throws IllegalAccessException {
        String name = "seed " + seed + ": " + call.getName() + java.util.Arrays.toString(numbers);
        long before = x.digest();
        int finding = x.count(8);
        try {
            long answer = ((Number) call.invoke(x, numbers)).longValue();
            boolean isRefused = answer >= -15 && answer <= -2 && !call.getName().equals("get") && !call.getName().equals("digest");
            if (isRefused) {
                Due.is(name + ": what it changed", x.digest(), before);
                Due.is(name + ": its FINDING", x.count(8), answer <= -11 ? -10 - answer : finding);
            } else if (!call.getName().equals("get")) {
                Due.is(name + ": its FINDING", x.count(8), finding);
            }
        } catch (InvocationTargetException thrown) {
            Due.is(name + " threw " + thrown.getCause(), 1, 0);
        }
    }
}
