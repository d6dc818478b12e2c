import java.lang.reflect.Method;
import java.lang.reflect.Modifier;
import java.util.ArrayList;
import java.util.Comparator;
import java.util.List;
import java.util.Random;

/** No call throws, whatever it is given, in whatever state; the same calls answer the same; what asks changes nothing. */
final class HostileTest {
    private static final int[] ODD = {Integer.MIN_VALUE, Integer.MIN_VALUE + 1, -100001, -100000, -1000, -2, -1, 0, 1, 2, 3,
        11, 12, 13, 15, 16, 19, 20, 24, 29, 30, 31, 39, 40, 59, 60, 79, 80, 100, 101, 149, 150, 160, 161, 300, 1000, 1001,
        2000, 2001, 3472, 65535, 65536, 99999, 100000, 134455, 1000000, 5000000, Integer.MAX_VALUE - 1, Integer.MAX_VALUE};
    private static final String ASKING = " counts holds broken brokenAt fine within air least trial worst ways fewest yards"
        + " nearest moves torn differs had shots knew late beyond worth look judge most about count ";

    public static void main(String[] args) throws Exception {
        List<Method> calls = calls();
        Due.due("methods of the face", calls.size(), 56);
        for (int seed = 0; seed < 300; seed++) {
            run(calls, seed);
        }
        Due.end("HostileTest");
    }

    private static List<Method> calls() {
        List<Method> calls = new ArrayList<>();
        for (Method m : PitInspector.class.getDeclaredMethods()) {
            if (Modifier.isPublic(m.getModifiers())) {
                calls.add(m);
            }
        }
        calls.sort(Comparator.comparing(Method::getName));
        return calls;
    }

    private static void run(List<Method> calls, int seed) throws Exception {
        Random random = new Random(seed);
        PitInspector x = new PitInspector();
        PitInspector twin = new PitInspector();
        if (seed % 2 == 0) {
            fill(x);
            fill(twin);
        }
        for (int k = 0; k < 450; k++) {
            Method m = calls.get(random.nextInt(calls.size()));
            Object[] args = new Object[m.getParameterCount()];
            for (int a = 0; a < args.length; a++) {
                args[a] = m.getParameterTypes()[a] == boolean.class ? random.nextBoolean() : (Object) number(random);
            }
            String asked = m.getName() + java.util.Arrays.toString(args);
            try {
                Object first = m.invoke(x, args);
                boolean asks = ASKING.contains(" " + m.getName() + " ");
                Object again = asks ? m.invoke(x, args) : first;
                Due.due(asked + " twice", first.equals(again), true);
                // the twin is not asked, so a call that only asks must not have changed x
                if (!asks || random.nextInt(4) == 0) {
                    Due.due(asked + " of a twin", first.equals(m.invoke(twin, args)), true);
                }
            } catch (java.lang.reflect.InvocationTargetException e) {
                Due.due(asked + " threw " + e.getCause(), 1, 0);
            }
        }
    }

    private static int number(Random random) {
        return random.nextInt(3) == 0 ? ODD[random.nextInt(ODD.length)] : random.nextInt(6);
    }

    private static void fill(PitInspector x) {
        for (int p = 0; p < 3; p++) {
            x.pit(p, 100, 20, 50);
            for (int k = 0; k < 4; k++) {
                x.place(p);
                x.hand(p, k);
            }
        }
        for (int k = 0; k < 10; k++) {
            x.road(4 * (k % 3), 4 * (k % 3) + 1 + k % 2, 1 + k, k % 2 == 0);
            x.plan(k, k % 4, k, k);
            x.water(0, k * 10, k);
            x.face(k % 3, 1, k, k);
            x.lamp(k);
        }
        x.fan(0, 0, 1, 100);
        Due.act(x, "d(a>1&o>1|w<5);n(l/b=1);w(h=0)1;f5");
        Due.rules(x, 0, "d(q<1);n(g%m=20);x0.1");
    }
}
