import java.lang.reflect.Constructor;
import java.lang.reflect.Field;
import java.lang.reflect.Method;
import java.lang.reflect.Modifier;
import java.util.Arrays;
import java.util.TreeSet;

/** The public face is the document's and no other; all else of the class is private. */
final class FaceTest {
    public static void main(String[] args) {
        Due due = new Due();
        TreeSet<String> want = new TreeSet<>(Arrays.asList(
            "int feed[int, int, int, int, int]", "int cut[int]", "int read[]", "int place[]", "int judge[]", "int told[int]",
            "int token[int, int]", "int method[int, int]", "int variable[int, int]", "int means[int]", "int type[int, int]",
            "long constant[int, int]", "int ends[int]", "int assigned[int, int]", "int argument[int, long]", "int input[int]",
            "int drain[]", "int run[int, int]", "long ran[int]"));
        TreeSet<String> names = new TreeSet<>();
        for (Method m : PlainJava.class.getDeclaredMethods()) {
            if (Modifier.isPublic(m.getModifiers())) {
                String told = m.getReturnType() + " " + m.getName() + Arrays.toString(m.getParameterTypes());
                due.same(told, want.remove(told) ? 1 : 0, 1);
                names.add(m.getName());
            }
        }
        due.same("methods that lack: " + want, want.size(), 0);
        for (Method m : PlainJava.class.getDeclaredMethods()) {
            if (!Modifier.isPublic(m.getModifiers()) && !m.isSynthetic()) {
                due.same(m + " is private and has no public one's name",
                    Modifier.isPrivate(m.getModifiers()) && !names.contains(m.getName()) ? 1 : 0, 1);
            }
        }
        for (Constructor<?> c : PlainJava.class.getDeclaredConstructors()) {
            due.same(c.toString(), Modifier.isPublic(c.getModifiers()) && c.getParameterCount() == 0 ? 1 : 0, 1);
        }
        int constants = 0;
        for (Field f : PlainJava.class.getDeclaredFields()) {
            boolean isConstant = Arrays.asList("BAD", "NO", "FULL").contains(f.getName());
            constants += isConstant ? 1 : 0;
            due.same(f.toString(), isConstant == Modifier.isPublic(f.getModifiers()) ? 1 : 0, 1);
            due.same(f + " is final if static", !Modifier.isStatic(f.getModifiers()) || Modifier.isFinal(f.getModifiers()) ? 1 : 0, 1);
        }
        due.same("constants", constants, 3);
        due.same("BAD", PlainJava.BAD, -1);
        due.same("NO", PlainJava.NO, -2);
        due.same("FULL", PlainJava.FULL, -3);
        due.same("final", Modifier.isFinal(PlainJava.class.getModifiers()) ? 1 : 0, 1);
        for (Class<?> inner : PlainJava.class.getDeclaredClasses()) {
            due.same(inner + " is static", Modifier.isStatic(inner.getModifiers()) && !Modifier.isPublic(inner.getModifiers()) ? 1 : 0, 1);
        }
        due.end();
    }
}
