import java.lang.reflect.InvocationTargetException;
import java.lang.reflect.Method;
import java.lang.reflect.Modifier;
import java.util.ArrayList;
import java.util.Comparator;
import java.util.List;
import java.util.Random;

/** No call throws, whatever it is given, in an empty, a full or any other state. */
public final class ExtremesTest {
    private static final int[] NUMBERS = {Integer.MIN_VALUE, Integer.MIN_VALUE + 1, -65536, -129, -13, -2, -1, 0, 1, 2, 3, 4, 5, 6, 7,
        8, 9, 10, 11, 12, 23, 24, 31, 32, 33, 39, 40, 41, 64, 71, 72, 99, 100, 159, 160, 161, 255, 256, 999, 1000, 9999, 10000,
        (1 << 24) - 1, 1 << 24, Integer.MAX_VALUE - 7, Integer.MAX_VALUE};
    private static final String TEXT = "binds (((((1or 1and 1<1+1*kind))))) and not(not(not(9*day<3)));saved-(-(-hangs)) or not same;";

    public static void main(String[] args) throws Exception {
        List<Method> face = new ArrayList<>();
        for (Method m : TwoHeads.class.getDeclaredMethods()) if (Modifier.isPublic(m.getModifiers())) face.add(m);
        face.sort(Comparator.comparing(Method::getName));
        for (int seed = 0; seed < 200; seed++) {
            Random random = new Random(seed);
            TwoHeads x = seed % 3 == 0 ? new TwoHeads() : full(random);
            for (int call = 0; call < 700; call++) callOne(x, face.get(random.nextInt(face.size())), random);
        }
        everyNumberAlone(face);
        Check.end();
    }

    private static TwoHeads full(Random random) {
        TwoHeads x = new TwoHeads();
        for (int i = 0; i < 12; i++) x.person(i % 8);
        for (int i = 0; i < 30; i++) x.turn(i % 8, random.nextInt(10000), i & 1);
        for (int i = 0; i < 24; i++) x.act(i % 6, i % 12, random.nextInt(72), random.nextInt(10000), random.nextInt(8) / 7);
        for (int i = 0; i < 60; i++) x.hang(random.nextInt(24), random.nextInt(24));
        for (int i = 0; i < 30; i++) x.pay(i % 6, i % 12, 9999, random.nextInt(10000));
        for (int i = 0; i < 10; i++) x.elector(999, i / 9);
        for (int i = 0; i < 8; i++) {
            x.clause((1 << 24) - 1);
            x.seats(i, 99);
            x.bound(i, 999);
            x.road(i, (i + 1) % 8, 99);
        }
        for (int i = 0; i < 4; i++) x.sheet(i, i % 3, 40);
        for (int t = 1; t < 6; t++) x.rule(t % 3, Check.text(x, TEXT));
        return x;
    }

    private static void callOne(TwoHeads x, Method m, Random random) throws Exception {
        Class<?>[] types = m.getParameterTypes();
        Object[] args = new Object[types.length];
        for (int i = 0; i < args.length; i++) {
            int n = NUMBERS[random.nextInt(NUMBERS.length)];
            args[i] = types[i] == long.class ? (Object) random.nextLong() : (Object) n;
        }
        answers(x, m, args);
    }

    private static void everyNumberAlone(List<Method> face) throws Exception {
        TwoHeads x = full(new Random(1));
        for (Method m : face) {
            for (int place = 0; place < m.getParameterCount(); place++) {
                for (int n : NUMBERS) {
                    Object[] args = new Object[m.getParameterCount()];
                    for (int i = 0; i < args.length; i++) {
                        int number = i == place ? n : 1;
                        args[i] = m.getParameterTypes()[i] == long.class ? (Object) (long) number : (Object) number;
                    }
                    answers(x, m, args);
                }
            }
        }
    }

    private static void answers(TwoHeads x, Method m, Object[] args) throws Exception {
        try {
            m.invoke(x, args);
            Check.holds(m.getName(), true);
        } catch (InvocationTargetException e) {
            Check.holds(m.getName() + java.util.Arrays.toString(args) + " threw " + e.getCause(), false);
        }
    }
}
