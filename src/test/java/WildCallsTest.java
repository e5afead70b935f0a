import java.lang.reflect.InvocationTargetException;
import java.lang.reflect.Method;
import java.lang.reflect.Modifier;
import java.util.Arrays;
import java.util.Comparator;
import java.util.Random;

/**
 * Random calls with any arguments, in any state: a call throws the very classes that it declares and
 * nothing of the machine's own, and a call that throws changes nothing.
 */
public final class WildCallsTest {
    private static final int[] EDGES = {
        Integer.MIN_VALUE, -256, -2, -1, 0, 1, 2, 3, 4, 11, 12, 13, 25, 26, 29, 30, 31, 32, 39, 40, 59, 60,
        'A' - 1, 'Z' + 1, 'a' - 1, 'z' + 1, 512, 1 << 29, 1 << 30, Integer.MAX_VALUE,
    };

    public static void main(String[] args) throws Exception {
        Method[] face = Arrays.stream(RefactoringReplay.class.getDeclaredMethods())
                .filter(m -> Modifier.isPublic(m.getModifiers()))
                .sorted(Comparator.comparing(Method::getName)).toArray(Method[]::new);
        Random random = new Random(20261118);
        for (int run = 0; run < 300; run++) {
            RefactoringReplay x = new RefactoringReplay();
            int wildness = 2 + random.nextInt(20);
            for (int call = 0; call < 512; call++) {
                one(x, face[random.nextInt(face.length)], random, wildness);
            }
        }
        Due.end();
    }

    private static void one(RefactoringReplay x, Method m, Random random, int wildness) throws Exception {
        Object[] given = new Object[m.getParameterCount()];
        for (int i = 0; i < given.length; i++) {
            boolean flag = m.getParameterTypes()[i] == boolean.class;
            given[i] = flag ? (Object) random.nextBoolean() : (Object) number(m, i, random, wildness);
        }
        long before = x.fingerprint();
        try {
            m.invoke(x, given);
        } catch (InvocationTargetException e) {
            String what = m.getName() + Arrays.toString(given);
            Class<?> thrown = e.getCause().getClass();
            Due.same(what + " threw " + thrown, Arrays.asList(m.getExceptionTypes()).contains(thrown), true);
            Due.same(what + " changed something", x.fingerprint(), before);
        }
    }

    private static int number(Method m, int place, Random random, int wildness) {
        if (random.nextInt(wildness) == 0) {
            return EDGES[random.nextInt(EDGES.length)];
        }
        int count = m.getParameterCount();
        boolean byName = m.getName().startsWith("matchOf");
        if (count == 1 && !byName || m.getName().equals("nameOf") || m.getParameterTypes()[count - 1] == boolean.class) {
            return random.nextInt(8) - 1;
        }
        if (place == 0 && !byName) {
            return random.nextInt(2);
        }
        boolean member = m.getName().endsWith("Member") && (byName ? place == 1 : place == 2)
                || m.getName().equals("renameMember") && place == 3
                || m.getName().endsWith("Use") && place % 2 == 0;
        return (member ? 'a' : 'A') + random.nextInt(member ? 8 : 14);
    }
}
