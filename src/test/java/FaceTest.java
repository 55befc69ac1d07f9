import java.lang.reflect.Constructor;
import java.lang.reflect.Field;
import java.lang.reflect.Method;
import java.lang.reflect.Modifier;
import java.nio.file.Files;
import java.nio.file.Path;
import java.util.Arrays;
import java.util.TreeSet;
import java.util.regex.Matcher;
import java.util.regex.Pattern;

/** The public face is the document's and no more (LANGUAGE.md, rule 1). */
public final class FaceTest {
    private static final String[] FACE = {
        "int add(int,int)", "int best(int)", "int chain(int,int,int)", "int count(int)", "int dual()",
        "int dualLong()", "int feed(int,int,int,int,int)", "int fold()", "int found(int)",
        "int isChain(int,int,int,int,int,int)", "int load(int)", "int lower(int,int)",
        "int method(int,int)", "int node(int,int) NoSuchElementException", "int prune()",
        "int run(int,int,int,int,int,int)", "int same(int)", "int save(int)", "int search(int,int)",
        "int sequence(int,int,int,int,int)", "int star(int,int)", "int text(int)", "int undo()",
        "int vector(int,int,int,int,int)", "int want(int,int)", "int wanted(int)",
        "long exponent(int,int)",
    };

    public static void main(String[] args) throws Exception {
        Due.is("the class is public and final (17)", PowerChains.class.getModifiers(), 17);
        TreeSet<String> got = new TreeSet<>();
        TreeSet<String> publicNames = new TreeSet<>();
        for (Method m : PowerChains.class.getDeclaredMethods()) {
            if (Modifier.isPrivate(m.getModifiers())) {
                continue;
            }
            Due.is(m + " is public and nothing else", m.getModifiers(), Modifier.PUBLIC);
            got.add(line(m));
            publicNames.add(m.getName());
        }
        TreeSet<String> want = new TreeSet<>(Arrays.asList(FACE));
        Due.is("the methods are those of the document: " + got, got.equals(want) ? 1 : 0, 1);
        String document = Files.readString(Path.of("../shared/DOC.md"));
        TreeSet<String> told = told(document);
        Due.is("the document's face: " + told, told.equals(want) ? 1 : 0, 1);
        marks(document);
        for (Method m : PowerChains.class.getDeclaredMethods()) {
            if (Modifier.isPrivate(m.getModifiers())) {
                Due.is(m + " bears a public name", publicNames.contains(m.getName()) ? 1 : 0, 0);
            }
        }
        for (Field f : PowerChains.class.getDeclaredFields()) {
            boolean none = f.getName().equals("NONE");
            Due.is(f + " is public", Modifier.isPublic(f.getModifiers()) ? 1 : 0, none ? 1 : 0);
            Due.is(f + " is private", Modifier.isPrivate(f.getModifiers()) ? 1 : 0, none ? 0 : 1);
            Due.is(f + " is final", Modifier.isFinal(f.getModifiers()) ? 1 : 0, 1);
        }
        Due.is("NONE", PowerChains.NONE, -1);
        Constructor<?>[] constructors = PowerChains.class.getDeclaredConstructors();
        Due.is("constructors", constructors.length, 1);
        Due.is("its parameters", constructors[0].getParameterCount(), 0);
        Due.is("it is public", constructors[0].getModifiers(), Modifier.PUBLIC);
        Class<?>[] inside = PowerChains.class.getDeclaredClasses();
        Due.is("at most twelve classes", inside.length + 1 <= 12 ? 1 : 0, 1);
        for (Class<?> c : inside) {
            int m = c.getModifiers();
            Due.is(c + " is static", Modifier.isStatic(m) ? 1 : 0, 1);
            Due.is(c + " is seen from outside", m & (Modifier.PUBLIC | Modifier.PROTECTED), 0);
        }
        Due.end();
    }

    /** The methods as ../shared/DOC.md itself has them. */
    private static TreeSet<String> told(String document) {
        TreeSet<String> told = new TreeSet<>();
        Matcher m = Pattern.compile("(?m)^ +public (\\w+) (\\w+)\\(([^)]*)\\)(?: throws (\\w+))?;").matcher(document);
        while (m.find()) {
            String parameters = m.group(3).replaceAll("(\\w+) \\w+", "$1").replace(", ", ",");
            told.add(m.group(1) + " " + m.group(2) + "(" + parameters + ")" + (m.group(4) == null ? "" : " " + m.group(4)));
        }
        return told;
    }

    /** "Ahead of the calls .. the interface says: .": the mark stands ahead of these calls, and of no others. */
    private static void marks(String document) throws Exception {
        String source = Files.readString(Path.of("src/main/java/PowerChains.java"));
        Matcher m = Pattern.compile("(?m)^Ahead of the calls (.*) the interface says: (-{4} .*)\\.$").matcher(document);
        int seen = 0;
        while (m.find()) {
            seen++;
            int at = source.indexOf("// " + m.group(2) + "\n");
            int next = at < 0 ? -1 : source.indexOf("// ----", at + 1);
            String behind = at < 0 ? "" : source.substring(at, next < 0 ? source.length() : next);
            StringBuilder calls = new StringBuilder();
            Matcher face = Pattern.compile("(?m)^    public \\w+ (\\w+)\\(").matcher(behind);
            while (face.find()) {
                calls.append(calls.length() == 0 ? "`" : ", `").append(face.group(1)).append('`');
            }
            Due.is(m.group(2) + " stands ahead of " + calls, calls.toString().equals(m.group(1)) ? 1 : 0, 1);
        }
        Due.is("marks told", seen, 2);
    }

    private static String line(Method m) {
        StringBuilder line = new StringBuilder(m.getReturnType().getName());
        line.append(' ').append(m.getName()).append('(');
        for (Class<?> parameter : m.getParameterTypes()) {
            line.append(line.charAt(line.length() - 1) == '(' ? "" : ",").append(parameter.getName());
        }
        line.append(')');
        for (Class<?> e : m.getExceptionTypes()) {
            line.append(' ').append(e.getSimpleName());
        }
        return line.toString();
    }
}
