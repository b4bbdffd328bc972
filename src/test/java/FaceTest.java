import java.lang.reflect.Constructor;
import java.lang.reflect.Field;
import java.lang.reflect.Member;
import java.lang.reflect.Method;
import java.lang.reflect.Modifier;
import java.util.Arrays;
import java.util.TreeSet;

/** The public face, and that no call throws, whatever it is given (LANGUAGE.md, rules 1 and 7). */
public final class FaceTest {
    private static final String[] FACE = {
        "int again()", "int broken(int)", "int cell(int,int,int,int)", "int clear(int)", "int copy(int,int,int,int,int)",
        "int entry(int,int,int,int)", "int entryOf(int,int,int)", "int feed(long,int)", "int goes(int,int,int,int)",
        "int item(int,int,int)", "int keep()", "int lay(int,int,int,int)", "int left(int,int,int)", "int many(int)",
        "int mend(int)", "int of(int,int,int)", "int page(int,int,int,int,int,int)", "int part(int,int,int,int)",
        "int put(int,int,long)", "int reduced(int,int,int,int,int)", "int sheet(int,int,int)", "int stands(int,int,int)",
        "int take(int,int,int,int)", "int text(int)", "int times(int,int,int)", "int trials(int)",
        "int turns(int,int,int,int,int,int)", "int whole(int,int,int)", "int wholeAt(int,int,int,int,int)",
        "int would(int,int,int,int,int,int)"};
    private static long seed = 77;

    public static void main(String[] args) throws ReflectiveOperationException {
        constants();
        members();
        anyCalls();
        Due.end("FaceTest");
    }

    private static void constants() throws ReflectiveOperationException {
        String[] names = {"BAD", "FULL", "NONE", "STATE"};
        for (int i = 0; i < names.length; i++) {
            Field f = PagesByLevels.class.getDeclaredField(names[i]);
            Due.due(names[i], f.getInt(null), -1 - i);
            Due.due(names[i] + " is a public constant", f.getModifiers(),
                Modifier.PUBLIC | Modifier.STATIC | Modifier.FINAL);
        }
    }

    private static void members() {
        Class<?> c = PagesByLevels.class;
        Due.due("the class", c.getModifiers(), Modifier.PUBLIC | Modifier.FINAL);
        TreeSet<String> methods = new TreeSet<>();
        TreeSet<String> names = new TreeSet<>();
        for (Method m : c.getDeclaredMethods()) {
            if (Modifier.isPublic(m.getModifiers())) {
                String types = Arrays.toString(m.getParameterTypes()).replace(" ", "");
                methods.add(m.getReturnType() + " " + m.getName() + "(" + types.substring(1, types.length() - 1) + ")");
                names.add(m.getName());
            }
        }
        Due.isTrue("the methods: " + methods, methods.equals(new TreeSet<>(Arrays.asList(FACE))));
        int hidden = 0;
        for (Method m : c.getDeclaredMethods()) {
            boolean isPublic = Modifier.isPublic(m.getModifiers());
            hidden += isPublic || isPrivate(m) && !names.contains(m.getName()) ? 0 : 1;
        }
        for (Field f : c.getDeclaredFields()) {
            hidden += isPrivate(f) || Arrays.asList("BAD", "FULL", "NONE", "STATE").contains(f.getName()) ? 0 : 1;
        }
        Due.due("other members that are not private, or bear a public name", hidden, 0);
        Constructor<?>[] made = c.getDeclaredConstructors();
        Due.due("constructors", made.length, 1);
        Due.due("its arguments", made[0].getParameterCount(), 0);
        Due.due("it is public", made[0].getModifiers(), Modifier.PUBLIC);
        for (Class<?> inner : c.getDeclaredClasses()) {
            Due.isTrue(inner + " is static", Modifier.isStatic(inner.getModifiers()));
            Due.isTrue(inner + " is hidden", !Modifier.isPublic(inner.getModifiers()));
            for (Method m : inner.getDeclaredMethods()) {
                Due.isTrue(inner + "." + m.getName() + " bears no public name", !names.contains(m.getName()));
            }
        }
    }

    private static boolean isPrivate(Member m) {
        return Modifier.isPrivate(m.getModifiers());
    }

    private static int upTo(int most) {
        seed = seed * 6364136223846793005L + 1442695040888963407L;
        return (int) ((seed >>> 33) % (most + 1));
    }

    /** Mostly small numbers, so that calls get far, and now and then the widest ones. */
    private static int anyInt(int wild) {
        int[] widest = {Integer.MIN_VALUE, Integer.MAX_VALUE, Integer.MIN_VALUE + 1, -1, -2, 4, 5, 10, 11, 12, 13, 40, 41};
        return upTo(wild) == 0 ? widest[upTo(widest.length - 1)] : upTo(upTo(3) == 0 ? 12 : upTo(1) == 0 ? 4 : 2);
    }

    private static void anyCalls() throws ReflectiveOperationException {
        Method[] all = PagesByLevels.class.getDeclaredMethods();
        Arrays.sort(all, (a, b) -> a.getName().compareTo(b.getName()));
        byte[] signs = "0001112;;;::@@**--,,  34x\u00ff".getBytes(java.nio.charset.StandardCharsets.ISO_8859_1);
        for (int round = 0; round < 600; round++) {
            PagesByLevels x = new PagesByLevels();
            int wild = 1 + round % 30 * 4;
            for (int call = 0; call < 512; call++) {
                Method m = upTo(2) == 0 ? PagesByLevels.class.getMethod("cell", int.class, int.class, int.class, int.class)
                    : all[upTo(all.length - 1)];
                if (!Modifier.isPublic(m.getModifiers())) {
                    continue;
                }
                Object[] given = new Object[m.getParameterCount()];
                for (int i = 0; i < given.length; i++) {
                    long eight = 0;
                    for (int k = 0; k < 8; k++) {
                        eight = eight << 8 | signs[upTo(signs.length - 1)] & 255;
                    }
                    Object small = anyInt(wild);
                    given[i] = m.getParameterTypes()[i] == int.class ? small : upTo(1) == 0 ? eight : (long) (int) small;
                }
                answered(m, given, x);
            }
        }
    }

    private static void answered(Method m, Object[] given, PagesByLevels x) {
        String told = m.getName() + Arrays.toString(given);
        try {
            int answer = (Integer) m.invoke(x, given);
            boolean known = answer >= -4 || answer >= -14 && answer <= -11 || answer <= -100 && answer >= -300;
            Due.isTrue(told + " answered " + answer, known || m.getName().equals("item"));
        } catch (ReflectiveOperationException e) {
            Due.isTrue(told + " threw " + e.getCause(), false);
        }
    }
}
