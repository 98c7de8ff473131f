import java.lang.reflect.InvocationTargetException;
import java.lang.reflect.Method;
import java.util.Random;

/** Any call with any arguments in any state: none throws, and two objects answer the same calls alike. The rows are the same each run. */
final class WildTest {
    private static final int RUNS = 400;
    private static final int CALLS = 512;
    private static final int[] WILD = {Integer.MIN_VALUE, Integer.MIN_VALUE + 1, -1000001, -41, -2, -1, 10, 11, 16, 31, 32, 33,
        40, 41, 60, 61, 99, 100, 255, 256, 1023, 1024, 65536, 1 << 30, Integer.MAX_VALUE - 1, Integer.MAX_VALUE};

    private WildTest() {
    }

    static void run() throws IllegalAccessException {
        int whole = 0;
        for (int seed = 0; seed < RUNS; seed++) {
            whole += calls(new Random(seed)) ? 1 : 0;
        }
        Check.isTrue("wild runs that end well: " + whole + " of " + RUNS, whole == RUNS);
    }

    private static boolean calls(Random random) throws IllegalAccessException {
        ChainedChest x = new ChainedChest();
        ChainedChest twin = new ChainedChest();
        Method[] face = face();
        for (int l = random.nextInt(11); l > 0; l--) {
            x.lock(l % 7);
            twin.lock(l % 7);
        }
        for (int i = 0; i < CALLS; i++) {
            Method m = face[random.nextInt(face.length)];
            Object[] args = new Object[m.getParameterCount()];
            for (int a = 0; a < args.length; a++) {
                args[a] = argument(random);
            }
            try {
                Object got = m.invoke(x, args);
                if (!got.equals(m.invoke(twin, args))) {
                    Check.isTrue(m.getName() + java.util.Arrays.toString(args) + " answers alike", false);
                    return false;
                }
            } catch (InvocationTargetException e) {
                Check.isTrue(m.getName() + java.util.Arrays.toString(args) + " threw " + e.getCause(), false);
                return false;
            }
        }
        return true;
    }

    private static Method[] face() {
        Method[] face = java.util.Arrays.stream(ChainedChest.class.getDeclaredMethods())
            .filter(m -> java.lang.reflect.Modifier.isPublic(m.getModifiers())).toArray(Method[]::new);
        java.util.Arrays.sort(face, java.util.Comparator.comparing(Method::getName));
        return face;
    }

    private static int argument(Random random) {
        switch (random.nextInt(8)) {
            case 0: return WILD[random.nextInt(WILD.length)];
            case 1: return random.nextInt();
            case 2: return random.nextInt(1024);
            case 3: return 8 << random.nextInt(3);
            default: return random.nextInt(11);
        }
    }
}
