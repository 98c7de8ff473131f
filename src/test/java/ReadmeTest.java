import java.io.IOException;
import java.lang.reflect.Method;
import java.lang.reflect.Modifier;
import java.nio.file.Files;
import java.nio.file.Path;

/** What README.md shows answers as it says there, and it names each call. */
final class ReadmeTest {
    private ReadmeTest() {
    }

    static void run(String file) throws IOException {
        String page = Files.readString(Path.of(file));
        calls();
        text(page);
        names(page);
    }

    private static void calls() {
        ChainedChest x = new ChainedChest();
        int lock = x.lock(0);
        int rope = x.lock(1);
        x.change(lock, 2, 4);
        x.rule(2, 1 << rope);
        Check.due(12, "README: the ROPE by itself", x.soonest(), 10);
        Check.due(10, "README: a step", x.off(rope), 10);
        Check.due(11, "README: he is out", x.now(5), 1);
    }

    private static void text(String page) {
        String text = "lock time 12 gives 3; rope time 20 binds 1 after 1; spare 1; goal 3";
        ChainedChest x = new ChainedChest();
        Check.isTrue("README shows the text", page.contains("\n" + text + "\n"));
        Check.due(36, "README: four ITEMS", Check.read(x, text), 4);
        Check.due(12, "README: the soonest way out", x.soonest(), 28);
    }

    private static void names(String page) {
        for (Method m : ChainedChest.class.getDeclaredMethods()) {
            if (Modifier.isPublic(m.getModifiers())) {
                Check.isTrue("README names " + m.getName(), page.contains("`" + m.getName() + "("));
            }
        }
    }
}
