import java.lang.reflect.InvocationTargetException;
import java.lang.reflect.Method;
import java.lang.reflect.Modifier;
import java.util.Arrays;
import java.util.Comparator;
import java.util.Random;

/** Any arguments in any state: no call throws, and the answers are the same each time. */
public final class NeverThrowsTest {
    private static final int[] EDGES = {Integer.MIN_VALUE, Integer.MIN_VALUE + 1, -65536, -3, -2, -1, 0, 1, 2,
        3, 4, 5, 6, 7, 8, 9, 10, 11, 12, 13, 14, 15, 19, 20, 21, 31, 32, 33, 59, 60, 61, 64, 65, 98, 99, 100, 101,
        199, 200, 201, 380, 399, 400, 401, 998, 999, 1000, 9999, 10000, 65535, 65536, Integer.MAX_VALUE - 1,
        Integer.MAX_VALUE};
    private static final String[] COURTS = {
        "court 3 10;thing 5;thing 2;holds 0 0;holds 1 1;person 8 1;person 4 3;person 0 0;quarrel 0 1",
        "court 12 99" + ";thing 20".repeat(6) + ";person 99 9".repeat(6) + ";quarrel 0 5;quarrel 1 4",
        "court 1 1", "court 2 3;person 0 1;person 2 0", "court 5 7;thing 0;holds 4 0",
    };
    private static final String[] RULES = {
        "hold rank if due>0;hold 9-times", "hold 99999*99999*99999*99999*hour/0%thing+1",
        "hold thing%rank/times+most*knights-titles if not [last=1 or usual=0] and clock<=people",
        "hold 0-1", "hold 1 if hour%7=thing", "hold 3-titles",
    };

    public static void main(String[] args) throws IllegalAccessException {
        Method[] face = Arrays.stream(SpoonCourt.class.getDeclaredMethods())
                .filter(m -> Modifier.isPublic(m.getModifiers()))
                .sorted(Comparator.comparing(Method::getName)).toArray(Method[]::new);
        Checks.due("methods of the face", face.length, 34);
        for (int seed = 0; seed < 1500; seed++) {
            long one = run(face, seed);
            if (seed % 10 == 0) {
                Checks.due("the same calls, the same answers, seed " + seed, run(face, seed), one);
            }
        }
        Checks.finish("NeverThrowsTest");
    }

    private static long run(Method[] face, int seed) throws IllegalAccessException {
        Random random = new Random(seed);
        SpoonCourt x = new SpoonCourt();
        if (seed % 8 != 0) {
            Checks.court(x, COURTS[random.nextInt(COURTS.length)]);
            for (int i = random.nextInt(8); i > 0; i--) {
                Checks.rule(x, RULES[random.nextInt(RULES.length)]);
            }
            x.force(random.nextInt(4) - 1);
        }
        long all = 0;
        for (int i = 0; i < 400; i++) {
            Method method = random.nextInt(6) == 0 ? face[indexOf(face, "hour")]
                    : face[random.nextInt(face.length)];
            boolean isReading = method.getName().equals("court") || method.getName().equals("rule");
            if (isReading && random.nextInt(10) > 0) {
                continue;
            }
            all = all * 31 + answer(x, method, arguments(method, random), seed);
        }
        return all;
    }

    private static int indexOf(Method[] face, String name) {
        for (int i = 0; i < face.length; i++) {
            if (face[i].getName().equals(name)) {
                return i;
            }
        }
        return 0;
    }

    private static Object[] arguments(Method method, Random random) {
        Object[] row = new Object[method.getParameterCount()];
        for (int i = 0; i < row.length; i++) {
            int kind = random.nextInt(8);
            row[i] = kind == 0 ? random.nextInt() : kind < 3 ? EDGES[random.nextInt(EDGES.length)]
                    : random.nextInt(4);
        }
        return row;
    }

    private static int answer(SpoonCourt x, Method method, Object[] row, int seed) throws IllegalAccessException {
        try {
            return (Integer) method.invoke(x, row);
        } catch (InvocationTargetException e) {
            System.out.println("seed " + seed + ": " + method.getName() + Arrays.toString(row));
            e.getCause().printStackTrace(System.out);
            Checks.due(method.getName() + " threw", 1, 0);
            return 0;
        }
    }
}
