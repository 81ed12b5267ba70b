import java.lang.reflect.Constructor;
import java.lang.reflect.Field;
import java.lang.reflect.Member;
import java.lang.reflect.Method;
import java.lang.reflect.Modifier;
import java.util.Set;
import java.util.TreeSet;

/** The public face, as the document tells it, and nothing beside it. */
public final class FaceTest {
    private static final String[] FACE = {
        "int feed(int, int, int, int, int)", "int text(int)", "int fault(int)", "int named(int)", "int shoe(int, int)",
        "int person(int, int)", "int debt(int, int)", "int pair(int, int)", "long law(int, int, int)",
        "int pay(int, int, int)", "boolean give(int, int)", "boolean on(int)", "boolean off(int)", "int days(int)",
        "int refused()", "int change(int, int)", "int mint(int, int)", "int pairs()", "int partner(int)",
        "int walk(int, int, int)", "int rests(int, int)", "int rest(int, int, int)", "int run(int)", "int save(int)",
        "int track(int, int)", "int strike(int)", "boolean known(int)", "int who()", "int tells(int)", "int ring()",
        "int good(int)", "int chance(int, int, int, int)", "int tried(int, int, int)", "int undo()", "int keep()",
        "int back()", "int count(int)"};

    public static void main(String[] args) {
        Class<?> c = LeftShoes.class;
        Due.is("public and final", Modifier.isPublic(c.getModifiers()) && Modifier.isFinal(c.getModifiers()), true);
        Set<String> due = new TreeSet<>(Set.of(FACE));
        Set<String> names = new TreeSet<>();
        for (String s : FACE) names.add(s.replaceAll(".* (\\w+)\\(.*", "$1"));
        for (Method m : c.getDeclaredMethods()) {
            if (m.isSynthetic()) continue;
            if (Modifier.isPrivate(m.getModifiers())) {
                Due.is("a private method that bears a public name, " + m.getName(), names.contains(m.getName()), false);
                continue;
            }
            String s = m.getReturnType() + " " + m.getName() + "(" + types(m.getParameterTypes()) + ")";
            Due.is("of the face: " + s, due.remove(s) && isPlainPublic(m), true);
        }
        Due.is("not there: " + due, due.size(), 0);
        for (Field f : c.getDeclaredFields()) {
            boolean none = f.getName().equals("NONE");
            Due.is("private field " + f.getName(), none || Modifier.isPrivate(f.getModifiers()), true);
            if (Modifier.isStatic(f.getModifiers())) Due.is("final " + f.getName(), Modifier.isFinal(f.getModifiers()), true);
        }
        Due.is("NONE", LeftShoes.NONE, -1);
        Constructor<?>[] made = c.getDeclaredConstructors();
        Due.is("constructors", made.length, 1);
        Due.is("public constructor without arguments", Modifier.isPublic(made[0].getModifiers()) && made[0].getParameterCount() == 0, true);
        for (Class<?> inside : c.getDeclaredClasses()) {
            int m = inside.getModifiers();
            Due.is("class inside " + inside.getName(), Modifier.isStatic(m) && !Modifier.isPublic(m) && !Modifier.isProtected(m), true);
        }
        thrown();
        Due.end();
    }

    private static String types(Class<?>[] types) {
        StringBuilder b = new StringBuilder();
        for (Class<?> t : types) b.append(b.length() == 0 ? "" : ", ").append(t.getName());
        return b.toString();
    }

    private static boolean isPlainPublic(Member m) {
        return Modifier.isPublic(m.getModifiers()) && !Modifier.isStatic(m.getModifiers());
    }

    private static void thrown() {
        try {
            Class<?>[] thrown = LeftShoes.class.getMethod("shoe", int.class, int.class).getExceptionTypes();
            Due.is("shoe names its exceptions", thrown.length, 2);
        } catch (NoSuchMethodException e) {
            Due.is("shoe is there", false, true);
        }
    }
}
