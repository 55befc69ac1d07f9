import java.lang.reflect.InvocationTargetException;
import java.lang.reflect.Method;
import java.nio.file.Files;
import java.nio.file.Path;
import java.util.TreeSet;
import java.util.regex.Matcher;
import java.util.regex.Pattern;

/** What README.md says is so: each row of its example answers what stands behind it; run from the project's folder. */
public final class ReadmeTest {
    private static final Pattern CALL =
            Pattern.compile("(?:x\\.(\\w+)\\((.*?)\\)|read\\(x, \"(.*?)\"\\)); +// (NoSuchElementException|-?\\d+): .*");

    private static final TreeSet<String> USED = new TreeSet<>();

    public static void main(String[] args) throws Exception {
        String readme = Files.readString(Path.of("README.md"));
        example(readme);
        everyCallIsUsedAndTold(readme);
        readIsAsHere(readme);
        everyTestIsTold(readme);
        Due.end();
    }

    private static void example(String readme) throws Exception {
        PowerChains x = null;
        for (String line : readme.split("\n")) {
            if (line.equals("PowerChains x = new PowerChains();")) {
                x = new PowerChains();
            } else if (line.startsWith("x.") || line.startsWith("read(x")) {
                Matcher call = CALL.matcher(line);
                boolean read = call.matches() && x != null;
                Due.is("README.md: the row can be read: " + line, read ? 1 : 0, 1);
                if (read) {
                    Due.is("README.md: " + line, answer(x, call), due(call.group(4)));
                }
            }
        }
        Due.is("README.md: the example makes an object", x != null ? 1 : 0, 1);
    }

    private static long answer(PowerChains x, Matcher call) throws Exception {
        if (call.group(1) == null) {
            return read(x, call.group(3));
        }
        String[] words = call.group(2).isEmpty() ? new String[0] : call.group(2).split(", ");
        Object[] arguments = new Object[words.length];
        Class<?>[] types = new Class<?>[words.length];
        for (int i = 0; i < words.length; i++) {
            arguments[i] = Integer.decode(words[i]);
            types[i] = int.class;
        }
        Method method = PowerChains.class.getMethod(call.group(1), types);
        USED.add(method.getName());
        try {
            return ((Number) method.invoke(x, arguments)).longValue();
        } catch (InvocationTargetException e) {
            Due.is(method + " throws NoSuchElementException",
                    e.getCause() instanceof java.util.NoSuchElementException ? 1 : 0, 1);
            return Due.NO_SUCH;
        }
    }

    private static long due(String answer) {
        return answer.equals("NoSuchElementException") ? Due.NO_SUCH : Long.parseLong(answer);
    }

    private static void everyCallIsUsedAndTold(String readme) {
        for (Method method : PowerChains.class.getDeclaredMethods()) {
            if (java.lang.reflect.Modifier.isPublic(method.getModifiers())) {
                String name = method.getName();
                Due.is("README.md: the example uses " + name, USED.contains(name) ? 1 : 0, 1);
                Due.is("README.md: the table tells " + name, told(readme, name) ? 1 : 0, 1);
            }
        }
    }

    private static boolean told(String readme, String name) {
        return Pattern.compile("(?m)^\\| [^|]*`" + name + "`").matcher(readme).find();
    }

    private static void readIsAsHere(String readme) throws Exception {
        String here = Files.readString(Path.of("src/test/java/ReadmeTest.java"));
        int at = readme.indexOf("static int read(");
        String block = at < 0 ? "" : readme.substring(at, readme.indexOf("```", at));
        String inside = ("    " + block).stripTrailing().replace("\n", "\n    ");
        Due.is("README.md: read() is the one that is tested", at >= 0 && here.contains(inside) ? 1 : 0, 1);
    }

    private static void everyTestIsTold(String readme) throws Exception {
        try (java.util.stream.Stream<Path> files = Files.list(Path.of("src/test/java"))) {
            for (Path file : files.toList()) {
                String name = file.getFileName().toString().replace(".java", "");
                if (name.endsWith("Test")) {
                    Due.is("README.md tells of " + name, readme.contains(name) ? 1 : 0, 1);
                }
            }
        }
    }

    static int read(PowerChains x, String text) {
        int[] words = new int[(text.length() + 19) / 20 * 5];
        for (int i = 0; i < words.length * 4; i++) {
            words[i / 4] = words[i / 4] << 8 | (i < text.length() ? text.charAt(i) & 255 : ' ');
        }
        for (int w = 0; w < words.length; w += 5) {
            x.feed(words[w], words[w + 1], words[w + 2], words[w + 3], words[w + 4]);
        }
        return x.text(text.length());
    }
}
