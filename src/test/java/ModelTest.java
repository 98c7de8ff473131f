import java.lang.reflect.Method;
import java.lang.reflect.Modifier;
import java.util.ArrayList;
import java.util.Comparator;
import java.util.List;
import java.util.Random;

/** The same calls of ChainedChest and of the plain model: both answer alike. The rows of numbers are the same each run. */
final class ModelTest {
    private static final int RUNS = 3000;
    private static final int CALLS = 60;

    private final Random random;
    private final ChainedChest x = new ChainedChest();
    private final Model model = new Model();
    private final List<String> log = new ArrayList<>();
    private final List<Method> face;
    private final int mostLocks;

    private ModelTest(int seed, List<Method> face) {
        this.random = new Random(seed);
        this.face = face;
        this.mostLocks = 2 + seed % 5;
    }

    static void run() {
        List<Method> face = face();
        int alike = 0;
        for (int seed = 0; seed < RUNS; seed++) {
            alike += new ModelTest(seed, face).calls() ? 1 : 0;
        }
        Check.isTrue("all runs are as the model's: " + alike + " of " + RUNS, alike == RUNS);
    }

    private static List<Method> face() {
        List<Method> face = new ArrayList<>();
        for (Method m : ChainedChest.class.getDeclaredMethods()) {
            if (Modifier.isPublic(m.getModifiers())) {
                face.add(m);
            }
        }
        face.sort(Comparator.comparing(Method::getName));
        return face;
    }

    private boolean calls() {
        try {
            boolean alike = chest();
            for (int i = 0; alike && i < CALLS; i++) {
                int kind = random.nextInt(12);
                alike = kind == 0 ? text() : kind == 1 ? sounds() : any();
            }
            return alike;
        } catch (ReflectiveOperationException e) {
            Check.isTrue(log.get(log.size() - 1) + " threw " + e.getCause(), false);
            return false;
        }
    }

    private boolean ask(String name, int... args) throws ReflectiveOperationException {
        for (Method m : face) {
            if (m.getName().equals(name)) {
                return ask(m, args);
            }
        }
        return false;
    }

    private boolean ask(Method m, int... args) throws ReflectiveOperationException {
        Object[] values = new Object[args.length];
        StringBuilder call = new StringBuilder(m.getName()).append('(');
        for (int i = 0; i < args.length; i++) {
            values[i] = args[i];
            call.append(i > 0 ? ", " : "").append(args[i]);
        }
        log.add(call.append(')').toString());
        long got = ((Number) m.invoke(x, values)).longValue();
        long want = ((Number) Model.class.getMethod(m.getName(), m.getParameterTypes()).invoke(model, values)).longValue();
        if (got != want) {
            Check.isTrue(log + " answered " + got + ", the model " + want, false);
        }
        return got == want;
    }

    /** Chests that can be left: most LOCKS want little. */
    private boolean chest() throws ReflectiveOperationException {
        boolean alike = true;
        for (int l = 0; l < mostLocks; l++) {
            alike &= ask("lock", random.nextInt(7));
            alike &= ask("change", l, 1, 1 + random.nextInt(20));
            alike &= ask("change", l, 2, random.nextInt(10));
            alike &= ask("change", l, 3, random.nextInt(3) == 0 ? random.nextInt(12) : 0);
            alike &= ask("change", l, 4, random.nextInt(4) == 0 ? random.nextInt(4) : 0);
            alike &= ask("change", l, 5, random.nextInt(random.nextInt(3) == 0 ? 3 : 1));
            alike &= ask("change", l, 6, random.nextInt(4) == 0 ? random.nextInt(5) : 0);
            alike &= ask("change", l, 7, random.nextInt(10));
        }
        for (int l = 0; l < mostLocks; l++) {
            int most = 1 << mostLocks;
            alike &= ask("change", l, 8, random.nextInt(most) & random.nextInt(most) & random.nextInt(1 << l));
            alike &= ask("change", l, 9, random.nextInt(3) == 0 ? random.nextInt(most) & random.nextInt(most) : 0);
        }
        return alike && ask("rule", 0, random.nextInt(16)) && ask("rule", 1, random.nextInt(6))
            && ask("rule", 2, random.nextInt(1 << mostLocks)) && ask("rule", 3, random.nextInt(8));
    }

    private boolean any() throws ReflectiveOperationException {
        Method m = face.get(random.nextInt(face.size()));
        if (m.getName().equals("lock") && model.count(1) >= mostLocks && random.nextInt(9) > 0) {
            return ask("off", random.nextInt(mostLocks));
        }
        if (m.getName().equals("text") || m.getName().equals("lock") && model.count(1) >= 6) {
            return ask("wipe");
        }
        if (m.getName().equals("on") || m.getName().equals("shut")) {
            return ask("off", random.nextInt(mostLocks)) && random.nextInt(2) == 0 || ask("shut");
        }
        int[] args = new int[m.getParameterCount()];
        for (int i = 0; i < args.length; i++) {
            args[i] = argument(m.getName(), i);
        }
        return ask(m, args);
    }

    private int argument(String name, int i) {
        if (random.nextInt(60) == 0) {
            int[] wild = {Integer.MIN_VALUE, -1, 7, 10, 41, 61, 1024, Integer.MAX_VALUE, random.nextInt()};
            return wild[random.nextInt(wild.length)];
        }
        switch (name) {
            case "change": return i == 0 ? random.nextInt(mostLocks) : i == 1 ? random.nextInt(10) : random.nextInt(8);
            case "of": return random.nextInt(i == 0 ? mostLocks : 13);
            case "rule": return i == 0 ? random.nextInt(5) : random.nextInt(1 << mostLocks);
            case "friday": return 1 + random.nextInt(20);
            case "seed": return random.nextInt();
            case "hear": return random.nextInt(20);
            case "feed": return i == 0 ? random.nextInt() : 1 + random.nextInt(4);
            case "sheet": return i == 0 ? random.nextInt(4) : i == 1 ? 8 << random.nextInt(3) : random.nextInt(9);
            case "write": return i == 0 ? random.nextInt(4) : i == 1 ? random.nextInt(5) : random.nextInt(300);
            case "copy": return i % 2 == 0 && i < 4 ? random.nextInt(4) : random.nextInt(4);
            case "load": case "judge": case "fits": case "maybe": case "surely": return random.nextInt(4);
            case "status": return random.nextInt(8) - 1;
            case "count": return random.nextInt(8);
            case "now": return random.nextInt(7);
            case "ahead": case "surest": return random.nextInt(2);
            default: return random.nextInt(mostLocks);
        }
    }

    /** A sheet of what can be heard, or of what could be gone, and what it tells. */
    private boolean sounds() throws ReflectiveOperationException {
        int s = random.nextInt(4);
        int n = random.nextInt(4);
        boolean steps = random.nextBoolean();
        boolean alike = ask("sheet", s, 8 << random.nextInt(3), n);
        for (int i = 0; i < n; i++) {
            int lock = random.nextInt(mostLocks);
            alike &= ask("write", s, i, steps ? lock : model.of(lock, 12));
            alike &= ask("status", 0) || true;
        }
        return alike && ask("fits", s) && ask("maybe", s) && ask("surely", s) && ask("judge", s) && ask("load", s);
    }

    private boolean text() throws ReflectiveOperationException {
        String[] words = {"lock", "rope", "chain", "old", "rusted", "nail", "bolt", "tools", "spare", "goal",
            "time", "gives", "wants", "binds", "hands", "after"};
        StringBuilder text = new StringBuilder();
        int items = 1 + random.nextInt(3);
        for (int i = 0; i < items; i++) {
            boolean rule = model.count(1) + i >= 6 || random.nextInt(3) == 0;
            text.append(i > 0 ? ";" : "").append(random.nextInt(4) == 0 ? " " : "");
            text.append(words[rule ? 7 + random.nextInt(3) : random.nextInt(7)]);
            for (int option = 10; !rule && option < 16; option++) {
                if (random.nextInt(3) == 0) {
                    text.append(' ').append(words[option]).append(random.nextInt(2) == 0 ? " " : "");
                    text.append(1 + random.nextInt(random.nextInt(9) == 0 ? 70 : 2));
                }
            }
            text.append(rule ? " " + random.nextInt(random.nextInt(9) == 0 ? 50 : 8) : "");
        }
        if (random.nextInt(3) == 0) {
            String signs = "; 0179agotwkr#";
            text.insert(random.nextInt(text.length() + 1), signs.charAt(random.nextInt(signs.length())));
        }
        if (random.nextInt(9) == 0) {
            text.setLength(random.nextInt(text.length() + 1));
        }
        boolean alike = ask("wipe");
        for (int i = 0; i < text.length(); i++) {
            alike &= ask("feed", text.charAt(i), 1);
        }
        return alike && ask("text") && ask("count", 1) && ask("now", 5) && ask("may");
    }
}
