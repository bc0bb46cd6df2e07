import java.lang.reflect.Constructor;
import java.lang.reflect.Field;
import java.lang.reflect.Method;
import java.lang.reflect.Modifier;
import java.util.Arrays;
import java.util.TreeSet;

/** The document's face and no other member that can be seen, by LANGUAGE.md's rules 1 and 11. */
final class FaceTest {
    private static final Checks CHECKS = new Checks();

    public static void main(String[] args) {
        TreeSet<String> face = new TreeSet<>(Arrays.asList(
                "int page(int, int, long)", "int commit(int)", "int sync()", "void cut(int, int)",
                "int start()", "byte at(int, int)", "int poke(int, int, int)", "int wrong(int)",
                "int backup(int)", "int drop(int)", "int derived(int)", "boolean full(boolean)"));
        CHECKS.due("public and final", Modifier.isPublic(KnowDisk.class.getModifiers())
                && Modifier.isFinal(KnowDisk.class.getModifiers()), true);
        TreeSet<String> seen = new TreeSet<>();
        TreeSet<String> names = new TreeSet<>();
        for (Method m : KnowDisk.class.getDeclaredMethods()) {
            if (!Modifier.isPrivate(m.getModifiers())) {
                seen.add(told(m));
                names.add(m.getName());
            }
        }
        CHECKS.due("methods that can be seen: " + seen, seen.equals(face), true);
        privateNames(KnowDisk.class, names);
        for (Constructor<?> c : KnowDisk.class.getDeclaredConstructors()) {
            CHECKS.due("constructor " + c, c.toString().equals("public KnowDisk(int)"), true);
        }
        fields(KnowDisk.class);
        Class<?>[] inside = KnowDisk.class.getDeclaredClasses();
        CHECKS.due("at most twelve classes", inside.length < 12, true);
        for (Class<?> c : inside) {
            CHECKS.due("static " + c, Modifier.isStatic(c.getModifiers()), true);
            privateNames(c, names);
            fields(c);
        }
        CHECKS.end();
    }

    private static String told(Method m) {
        StringBuilder b = new StringBuilder(m.getReturnType() + " " + m.getName() + "(");
        for (int k = 0; k < m.getParameterCount(); k++) {
            b.append(k == 0 ? "" : ", ").append(m.getParameterTypes()[k]);
        }
        return b.append(")").toString();
    }

    private static void privateNames(Class<?> c, TreeSet<String> face) {
        for (Method m : c.getDeclaredMethods()) {
            if (Modifier.isPrivate(m.getModifiers())) {
                CHECKS.due("a private method with a name of the face: " + m, face.contains(m.getName()), false);
            }
            CHECKS.due("at most seven parameters: " + m, m.getParameterCount() <= 7, true);
        }
    }

    private static void fields(Class<?> c) {
        int own = 0;
        for (Field f : c.getDeclaredFields()) {
            CHECKS.due("private " + f, Modifier.isPrivate(f.getModifiers()), true);
            if (!Modifier.isStatic(f.getModifiers())) {
                own++;
            } else {
                CHECKS.due("final " + f, Modifier.isFinal(f.getModifiers()), true);
            }
        }
        CHECKS.due("at most twenty fields in " + c, own <= 20, true);
    }
}
