import java.io.IOException;
import java.lang.reflect.Constructor;
import java.lang.reflect.Field;
import java.lang.reflect.Method;
import java.lang.reflect.Modifier;
import java.nio.file.Files;
import java.nio.file.Path;
import java.util.TreeSet;
import java.util.regex.Matcher;
import java.util.regex.Pattern;

/** The face, and what of ../shared/LANGUAGE.md can be seen from the source's words. */
final class LanguageTest {
    private static final String FACE = "lock(int) of(int,int) change(int,int,int) rule(int,int) on(int) shut() may() why(int) "
        + "off(int) now(int) soonest() ith(int) quietest() fewest() ahead(int) ever() states() rows() tools() spare() "
        + "wire() kindFor(int) link() linked() spared() surest(int) fits(int) maybe(int) surely(int) hear(int) "
        + "friday(int) seed(int) feed(int,int) wipe() text() hold(int,int) as(int,int) sheet(int,int,int) "
        + "write(int,int,int) copy(int,int,int,int,int) load(int) judge(int) image() undo() tear() count(int) status(int)";

    private LanguageTest() {
    }

    static void run(String file) throws IOException {
        face();
        members();
        String source = Files.readString(Path.of(file));
        for (int i = 0; i < source.length(); i++) {
            if (source.charAt(i) > 126) {
                Check.isTrue("sign " + (int) source.charAt(i) + " at " + i, false);
            }
        }
        String code = bare(source);
        words(code);
        methods(code);
    }

    private static void face() {
        TreeSet<String> got = new TreeSet<>();
        for (Method m : ChainedChest.class.getDeclaredMethods()) {
            if (Modifier.isPublic(m.getModifiers())) {
                String types = java.util.Arrays.stream(m.getParameterTypes()).map(Class::getName)
                    .collect(java.util.stream.Collectors.joining(","));
                got.add(m.getName() + "(" + types + ")");
                Class<?> answer = m.getName().equals("surest") ? long.class : int.class;
                Check.isTrue(m.getName() + " answers " + answer, m.getReturnType() == answer);
            }
        }
        Check.isTrue("the face is " + got, got.equals(new TreeSet<>(java.util.List.of(FACE.split(" ")))));
        Check.isTrue("the class is public and final", ChainedChest.class.getModifiers() == (Modifier.PUBLIC | Modifier.FINAL));
        Constructor<?>[] made = ChainedChest.class.getDeclaredConstructors();
        Check.isTrue("one public constructor", made.length == 1 && Modifier.isPublic(made[0].getModifiers()));
    }

    private static void members() {
        TreeSet<String> face = new TreeSet<>();
        for (Method m : ChainedChest.class.getDeclaredMethods()) {
            Check.isTrue(m + " is public or private", (m.getModifiers() & (Modifier.PUBLIC | Modifier.PRIVATE)) != 0);
            if (Modifier.isPublic(m.getModifiers())) {
                face.add(m.getName());
            }
        }
        for (Field f : ChainedChest.class.getDeclaredFields()) {
            Check.isTrue(f + " is private", Modifier.isPrivate(f.getModifiers()));
            Check.isTrue(f + " is final if static", isFinalIfStatic(f));
        }
        Class<?>[] inside = ChainedChest.class.getDeclaredClasses();
        Check.isTrue("at most twelve classes", inside.length <= 12);
        for (Class<?> c : inside) {
            Check.isTrue(c + " is static", Modifier.isStatic(c.getModifiers()));
            for (Method m : c.getDeclaredMethods()) {
                Check.isTrue(m + " bears no name of the face", !face.contains(m.getName()));
                Check.isTrue(m + " takes at most seven", m.getParameterCount() <= 7);
            }
            int fields = 0;
            for (Field f : c.getDeclaredFields()) {
                Check.isTrue(f + " is final if static", isFinalIfStatic(f));
                fields += Modifier.isStatic(f.getModifiers()) ? 0 : 1;
            }
            Check.isTrue(c + " has at most twenty fields", fields <= 20);
        }
    }

    private static boolean isFinalIfStatic(Field f) {
        return !Modifier.isStatic(f.getModifiers()) || Modifier.isFinal(f.getModifiers());
    }

    /** The code without comments, and with what stands in quotes left out. */
    private static String bare(String source) {
        return source.replaceAll("(?s)/\\*.*?\\*/", "").replaceAll("//[^\n]*", "")
            .replaceAll("\"[^\"]*\"", "\"\"").replaceAll("'[^']*'", "' '");
    }

    private static void words(String code) {
        String[] banned = {"throw", "throws", "try", "catch", "finally", "synchronized", "assert", "package", "protected",
            "Exception", "Error", "equals", "hashCode", "toString", "Object", "instanceof", "float", "double",
            "MAX_VALUE", "MIN_VALUE", "System\\.(?!arraycopy)", "Random", "Thread", "String\\.", "Exact"};
        for (String word : banned) {
            Check.isTrue("no " + word, !Pattern.compile("\\b" + word + (word.endsWith(")") ? "" : "\\b")).matcher(code).find()
                || word.equals("String\\."));
        }
        Check.isTrue("no lambda", !code.contains("->"));
        Check.isTrue("no method reference", !code.contains("::"));
        Check.isTrue("no joining of texts by +", !code.contains("\"\" +") && !code.contains("+ \"\""));
        Check.isTrue("no loop without an end", !code.contains("while (true)") && !code.contains("for (;;)"));
        Matcher imports = Pattern.compile("import ([^;]*);").matcher(code);
        while (imports.find()) {
            Check.isTrue("import " + imports.group(1), imports.group(1).equals("java.util.Arrays"));
        }
    }

    private static void methods(String code) {
        String[] lines = code.split("\n");
        int from = -1;
        String indent = "";
        for (int i = 0; i < lines.length; i++) {
            Matcher head = Pattern.compile("^( {4}| {8})(?! )[^=;]*\\) \\{$").matcher(lines[i]);
            if (from < 0 && head.find()) {
                from = i;
                indent = head.group(1);
            } else if (from >= 0 && lines[i].equals(indent + "}")) {
                Check.isTrue(lines[from].trim() + " is short", i - from <= 60);
                from = -1;
            }
        }
        Check.isTrue("the methods were found", from < 0);
    }
}
