import java.lang.reflect.InvocationTargetException;
import java.lang.reflect.Method;
import java.lang.reflect.Modifier;
import java.util.ArrayList;
import java.util.Arrays;
import java.util.Comparator;
import java.util.List;
import java.util.Random;
import java.util.Set;

/**
 * "They change nothing (FINDINGS but count() 8)": of two objects one hears every call and the other only those that were
 * carried out; whatever can be asked of them is the same in the end.
 */
final class TwinTests {
    private static final Set<String> TELLING = Set.of("type", "wipe", "undo", "event", "back", "read", "seen", "forget",
        "sheet", "lose", "lay", "copy", "write");
    private static final int[] NUMBERS = {-1, 0, 0, 1, 1, 2, 2, 3, 3, 4, 5, 6, 8, 9, 10, 11, 12, 13, 17, 59, 60, 61,
        's', 'c', 'w', ';', '0', '5', '9', 255, 256, Integer.MAX_VALUE, Integer.MIN_VALUE};

    public static void main(String[] args) throws IllegalAccessException, InvocationTargetException {
        Due.of("They change nothing (FINDINGS but count() 8)");
        List<Method> calls = new ArrayList<>();
        for (Method call : RosetteShow.class.getDeclaredMethods()) {
            if (Modifier.isPublic(call.getModifiers())) {
                calls.add(call);
            }
        }
        calls.sort(Comparator.comparing(Method::getName));
        for (int seed = 0; seed < 1500; seed++) {
            run(calls, new Random(seed), "seed " + seed);
        }
        Due.end();
    }

    private static RosetteShow begin() {
        RosetteShow x = Due.show("w70;s81;c92;w63", "w25;s10;c31", "0120");
        x.event(0, 1, 1);
        x.event(1, 2, 0);
        x.seen(0, 0, 0);
        for (int s = 0; s < 3; s++) {
            x.sheet(s, s, 5 + s);
            x.lay(s, s, 4, 1);
        }
        return x;
    }

    private static void run(List<Method> calls, Random lots, String name) throws IllegalAccessException, InvocationTargetException {
        RosetteShow all = begin();
        RosetteShow told = begin();
        for (int i = 0; i < 40; i++) {
            Method call = calls.get(lots.nextInt(calls.size()));
            Object[] numbers = new Object[call.getParameterCount()];
            for (int p = 0; p < numbers.length; p++) {
                numbers[p] = NUMBERS[lots.nextInt(lots.nextBoolean() ? 9 : NUMBERS.length)];
            }
            long answer = ((Number) call.invoke(all, numbers)).longValue();
            if (TELLING.contains(call.getName()) && answer >= 0) {
                long same = ((Number) call.invoke(told, numbers)).longValue();
                Due.is(name + ": " + call.getName() + Arrays.toString(numbers), same, answer);
            }
        }
        compare(all, told, name);
    }

    private static void compare(RosetteShow all, RosetteShow told, String name) {
        Due.is(name + ": digest", all.digest(), told.digest());
        for (int s = 0; s < 4; s++) {
            for (int form = 0; form < 3; form++) {
                for (int i = 0; i <= 60; i++) {
                    Due.is(name + ": item " + i + " of " + s, all.get(s, form, i), told.get(s, form, i));
                    // A SHEET is asked as of FORM 0 first, so that ahead of an item that is the least int both had the same FINDING.
                    if (told.get(s, form, i) == Integer.MIN_VALUE) {
                        Due.is(name + ": FINDING at " + i + " of " + s, all.count(8), told.count(8));
                    }
                }
            }
            Due.is(name + ": items of " + s, all.lose(s), told.lose(s));
        }
        while (told.count(6) > 0) {
            Due.is(name + ": EVENTS", all.back(), told.back());
            Due.is(name + ": digest", all.digest(), told.digest());
        }
        for (int text = 0; text < 3; text++) {
            while (told.count(3 + text) > 0) {
                Due.is(name + ": bytes of " + text, all.undo(text), told.undo(text));
                Due.is(name + ": fault of " + text, all.fault(text), told.fault(text));
            }
        }
        Due.is(name + ": SEEN", all.forget(), told.forget());
        Due.is(name + ": digest of nothing", all.digest(), new RosetteShow().digest());
    }
}
