import java.lang.reflect.Constructor;
import java.lang.reflect.Field;
import java.lang.reflect.Method;
import java.lang.reflect.Modifier;
import java.util.Arrays;
import java.util.TreeSet;

/** The public face is the document's and no more (LANGUAGE.md, rule 1). */
public final class FaceTest {
    private static final String[] FACE = {
        "int add(int,int)", "int best(int)", "int chain(int,int,int)", "int count(int)", "int dual()",
        "int dualLong()", "int feed(int,int,int,int,int)", "int fold()", "int found(int)",
        "int isChain(int,int,int,int,int,int)", "int load(int)", "int lower(int,int)",
        "int method(int,int)", "int node(int,int) NoSuchElementException", "int prune()",
        "int run(int,int,int,int,int,int)", "int same(int)", "int save(int)", "int search(int,int)",
        "int sequence(int,int,int,int,int)", "int star(int,int)", "int text(int)", "int undo()",
        "int vector(int,int,int,int,int)", "int want(int,int)", "int wanted(int)",
        "long exponent(int,int)",
    };

    public static void main(String[] args) {
        Due.is("the class is public and final (17)", PowerChains.class.getModifiers(), 17);
        TreeSet<String> got = new TreeSet<>();
        TreeSet<String> publicNames = new TreeSet<>();
        for (Method m : PowerChains.class.getDeclaredMethods()) {
            if (Modifier.isPrivate(m.getModifiers())) {
                continue;
            }
            Due.is(m + " is public and nothing else", m.getModifiers(), Modifier.PUBLIC);
            got.add(line(m));
            publicNames.add(m.getName());
        }
        TreeSet<String> want = new TreeSet<>(Arrays.asList(FACE));
        Due.is("the methods are those of the document: " + got, got.equals(want) ? 1 : 0, 1);
        for (Method m : PowerChains.class.getDeclaredMethods()) {
            if (Modifier.isPrivate(m.getModifiers())) {
                Due.is(m + " bears a public name", publicNames.contains(m.getName()) ? 1 : 0, 0);
            }
        }
        for (Field f : PowerChains.class.getDeclaredFields()) {
            boolean none = f.getName().equals("NONE");
            Due.is(f + " is public", Modifier.isPublic(f.getModifiers()) ? 1 : 0, none ? 1 : 0);
            Due.is(f + " is private", Modifier.isPrivate(f.getModifiers()) ? 1 : 0, none ? 0 : 1);
            Due.is(f + " is final", Modifier.isFinal(f.getModifiers()) ? 1 : 0, 1);
        }
        Due.is("NONE", PowerChains.NONE, -1);
        Constructor<?>[] constructors = PowerChains.class.getDeclaredConstructors();
        Due.is("constructors", constructors.length, 1);
        Due.is("its parameters", constructors[0].getParameterCount(), 0);
        Due.is("it is public", constructors[0].getModifiers(), Modifier.PUBLIC);
        Class<?>[] inside = PowerChains.class.getDeclaredClasses();
        Due.is("at most twelve classes", inside.length + 1 <= 12 ? 1 : 0, 1);
        for (Class<?> c : inside) {
            int m = c.getModifiers();
            Due.is(c + " is static", Modifier.isStatic(m) ? 1 : 0, 1);
            Due.is(c + " is seen from outside", m & (Modifier.PUBLIC | Modifier.PROTECTED), 0);
        }
        Due.end();
    }

    private static String line(Method m) {
        StringBuilder line = new StringBuilder(m.getReturnType().getName());
        line.append(' ').append(m.getName()).append('(');
        for (Class<?> parameter : m.getParameterTypes()) {
            line.append(line.charAt(line.length() - 1) == '(' ? "" : ",").append(parameter.getName());
        }
        line.append(')');
        for (Class<?> e : m.getExceptionTypes()) {
            line.append(' ').append(e.getSimpleName());
        }
        return line.toString();
    }
}
