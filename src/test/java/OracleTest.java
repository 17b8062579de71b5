import java.lang.reflect.InvocationTargetException;
import java.lang.reflect.Method;
import java.util.ArrayList;
import java.util.Comparator;
import java.util.List;
import java.util.Random;

/** Runs of calls, made by a seed, on the class and on the oracle: each answer must be alike. */
public final class OracleTest {
    private static final int RUNS = 150, CALLS = 512;
    private static final int[] EDGES = {-2, -1, 0, 1, 2, 3, 4, 5, 6, 7, 8, 9, 10, 11, 12, 23, 24, 40, 41, 71, 72, 99, 100,
        255, 256, 300, 900, 998, 999, 1000, 9998, 9999, 10000, 1 << 24, Integer.MAX_VALUE, Integer.MIN_VALUE};
    private static final int[] KINDS = {0, 1, 1, 1, 1, 2, 3, 4, 4, 5};
    private static final String[] WORDS = {"binds", "saved", "or", "and", "not", "kind", "day", "rank", "same", "hangs",
        "faith", "(", ")", ";", "+", "-", "*", "<", "=", "7", "0", "12", "9999", "12345", "x", "?", "\n", "-", "(", "not"};

    private final Random random;
    private final TwoHeads x = new TwoHeads();
    private final Oracle oracle = new Oracle();
    private final List<String> told = new ArrayList<>();
    private int acts;
    private int calls;

    private OracleTest(int seed) {
        random = new Random(seed);
    }

    public static void main(String[] args) throws Exception {
        int from = args.length > 0 ? Integer.parseInt(args[0]) : 0;
        int runs = args.length > 1 ? Integer.parseInt(args[1]) : RUNS;
        for (int seed = from; seed < from + runs; seed++) {
            OracleTest test = new OracleTest(seed);
            if (!test.run()) {
                Check.due("run " + seed, 0, 1);
                for (String line : test.told) System.out.println(line);
                break;
            }
            Check.due("run", 1, 1);
        }
        Check.end();
    }

    private static List<Method> face() {
        List<Method> methods = new ArrayList<>();
        for (Method m : TwoHeads.class.getDeclaredMethods()) {
            if (java.lang.reflect.Modifier.isPublic(m.getModifiers())) methods.add(m);
        }
        methods.sort(Comparator.comparing(Method::getName));
        return methods;
    }

    private static final List<Method> FACE = face();

    private boolean run() throws Exception {
        boolean wild = random.nextInt(4) == 0;
        if (!wild && !settle()) return false;
        while (calls < CALLS) {
            Method m = FACE.get(random.nextInt(FACE.size()));
            if (m.getName().equals("text") || m.getName().equals("feed")) {
                if (random.nextInt(3) == 0 && !feedText()) return false;
                if (random.nextInt(4) != 0) continue;
            }
            if (!call(m.getName(), arguments(m, wild))) return false;
        }
        return true;
    }

    /** A beginning in which later calls find something. */
    private boolean settle() throws Exception {
        int persons = 2 + random.nextInt(6);
        for (int i = 0; i < persons; i++) if (!call("person", random.nextInt(4))) return false;
        int roads = random.nextInt(12);
        for (int i = 0; i < roads; i++) {
            if (!call("road", random.nextInt(8), random.nextInt(8), 1 + random.nextInt(random.nextBoolean() ? 9 : 99))) return false;
        }
        for (int i = 0; i < 8; i++) {
            if (!call("seats", i, random.nextInt(20)) || !call("bound", i, random.nextInt(120))) return false;
        }
        for (int i = 0; i < 6; i++) if (!call("turn", random.nextInt(8), random.nextInt(300), random.nextInt(2))) return false;
        for (int i = 0; i < 6; i++) {
            if (!call("act", KINDS[random.nextInt(KINDS.length)], random.nextInt(persons), random.nextInt(3) * 12 + random.nextInt(persons),
                    random.nextInt(300), random.nextInt(4) / 3)) return false;
        }
        for (int i = 0; i < 6; i++) if (!call("hang", random.nextInt(6), random.nextInt(6))) return false;
        for (int i = 0; i < 5; i++) {
            if (!call("elector", random.nextInt(6), random.nextInt(3) / 2) || !call("clause", random.nextInt(64))) return false;
        }
        for (int i = 0; i < 12; i++) {
            if (!call("worth", random.nextInt(5), random.nextInt(8), random.nextInt(9) - 5)) return false;
        }
        return true;
    }

    private Object[] arguments(Method m, boolean wild) {
        Class<?>[] types = m.getParameterTypes();
        Object[] args = new Object[types.length];
        for (int i = 0; i < args.length; i++) {
            int n = wild || random.nextInt(12) == 0 ? EDGES[random.nextInt(EDGES.length)] : likely(m.getName(), i);
            args[i] = types[i] == long.class ? (Object) random.nextLong() : (Object) n;
        }
        return args;
    }

    /** A number that is mostly right in that place. */
    private int likely(String name, int i) {
        String place = name + i;
        switch (place) {
            case "turn1": case "changed1": case "side1": case "act3": case "inForce1": case "quarrels0": case "pay3":
            case "byRight2": case "council3": case "lift1":
                return random.nextInt(8) == 0 ? random.nextInt(10000) : random.nextInt(320);
            case "act2": return random.nextInt(72);
            case "road2": return random.nextInt(6) == 0 ? 999 : 1 + random.nextInt(30);
            case "pay2": return 1 + random.nextInt(9999);
            case "council1": return random.nextInt(5) == 0 ? 999 : random.nextInt(80);
            case "council2": return 1 + random.nextInt(60);
            case "worth2": return random.nextInt(21) - 11;
            case "bound1": return random.nextInt(150);
            case "journey1": return random.nextInt(256);
            case "journey2": return random.nextInt(9) - 1;
            case "clause0": return random.nextInt(1 << 24);
            case "elector0": return random.nextInt(10);
            case "seats1": return random.nextInt(30);
            case "sheet1": return random.nextInt(4) - 1;
            case "sheet2": return random.nextInt(41);
            case "cell1": case "copy1": case "copy3": return random.nextInt(12);
            case "copy4": case "seatsRow2": case "seatsRow3": return random.nextInt(9);
            case "cell2": return random.nextBoolean() ? random.nextInt(100) : random.nextInt();
            case "seat1": case "owed1": return random.nextInt(6) - 1;
            case "count0": return random.nextInt(11);
            case "settling0": return random.nextInt(9);
            case "elector1": case "act4": case "turn2": case "changed2": case "officeTold1": case "bought0": case "says2":
                return random.nextInt(2);
            case "act0": return KINDS[random.nextInt(KINDS.length)];
            case "byRight1": case "pay0": case "rule1": return random.nextInt(3);
            case "taken1": return random.nextInt(6);
            case "acts1": case "sheet0": case "cell0": case "copy0": case "copy2": case "seatsRow0": return random.nextInt(4);
            case "rule0": case "says0": case "acts0": case "felled0": case "inForce0": case "byRight0": case "owed0":
            case "settling1": case "seatsRow1":
                return random.nextInt(3);
            default: return random.nextInt(8);
        }
    }

    private boolean feedText() throws Exception {
        StringBuilder text = new StringBuilder();
        if (random.nextInt(5) == 0) {
            int n = random.nextInt(30);
            for (int i = 0; i < n; i++) text.append(WORDS[random.nextInt(WORDS.length)]).append(random.nextBoolean() ? " " : "");
        } else {
            text.append("binds ").append(either(4)).append(";saved ").append(either(3)).append(" ;");
        }
        if (random.nextInt(3) == 0) text.insert(random.nextInt(text.length() + 1), " " + WORDS[random.nextInt(WORDS.length)] + " ");
        if (random.nextInt(8) == 0) text.insert(random.nextInt(text.length() + 1), (char) random.nextInt(256));
        if (random.nextInt(10) == 0) text.setLength(random.nextInt(text.length() + 1));
        if (text.length() > 160) text.setLength(160);
        for (int i = 0; i < text.length(); i += 8) {
            int n = Math.min(8, text.length() - i);
            long bytes = 0;
            for (int k = 0; k < n; k++) bytes |= (long) text.charAt(i + k) << 8 * k;
            if (!call("feed", n, bytes)) return false;
        }
        return call("text");
    }

    private String either(int depth) {
        switch (random.nextInt(depth > 0 ? 4 : 1)) {
            case 1: return either(depth - 1) + (random.nextBoolean() ? " or " : " and ") + either(depth - 1);
            case 2: return "not " + either(depth - 1);
            case 3: return sum(depth - 1) + (random.nextBoolean() ? "<" : " = ") + sum(depth - 1);
            default: return sum(depth);
        }
    }

    private String sum(int depth) {
        switch (random.nextInt(depth > 0 ? 6 : 2)) {
            case 0: return String.valueOf(random.nextInt(random.nextBoolean() ? 4 : 10000));
            case 2: return sum(depth - 1) + "+-*".charAt(random.nextInt(3)) + sum(depth - 1);
            case 3: return "-" + sum(depth - 1);
            case 4: return "(" + either(depth - 1) + ")";
            default: return WORDS[5 + random.nextInt(6)];
        }
    }

    private boolean call(String name, Object... args) throws Exception {
        if (name.equals("act") && acts >= Oracle.MOST_ACTS) return true;
        calls++;
        Class<?>[] types = new Class<?>[args.length];
        for (int i = 0; i < args.length; i++) types[i] = args[i] instanceof Long ? long.class : int.class;
        long want = answer(Oracle.class.getDeclaredMethod(name, types), oracle, args);
        long got = answer(TwoHeads.class.getDeclaredMethod(name, types), x, args);
        if (name.equals("act") && got >= 0) acts++;
        told.add(name + java.util.Arrays.toString(args) + " = " + got + (got == want ? "" : ", due is " + want));
        return got == want;
    }

    private static long answer(Method m, Object on, Object[] args) throws Exception {
        try {
            return ((Number) m.invoke(on, args)).longValue();
        } catch (InvocationTargetException e) {
            e.getCause().printStackTrace(System.out);
            return Long.MIN_VALUE;
        }
    }
}
