import java.lang.reflect.Constructor;
import java.lang.reflect.Field;
import java.lang.reflect.Method;
import java.lang.reflect.Modifier;
import java.util.Arrays;
import java.util.Set;
import java.util.TreeSet;

/** The public face is the document's, and no more. */
public final class FaceTest {
    private static final String[] METHODS = {
        "child(int)", "know(int,int,int)", "need(int,int)", "hears(int,int,boolean)", "told(int,int)",
        "passes(int,int)", "type(long,int)", "school()", "plan()", "count(int)", "may(int,int,int)",
        "teach(int,int,int)", "run()", "hours(int)", "bound(int)", "spared()", "order(int,int)",
        "mouths(int,int)", "from(int,int)", "lessons(int)", "seed(int)", "image()", "restore()",
        "hour(int,int,int,int)", "film(int,int,int,int)", "sheet(int,int,int)", "drop(int)",
        "item(int,int,int,int)", "copy(int,int,int,int,int)"};

    public static void main(String[] args) {
        Class<?> face = TaughtHours.class;
        Check.holds("public final", Modifier.isPublic(face.getModifiers()) && Modifier.isFinal(face.getModifiers()));
        Check.holds("no package", face.getPackageName().isEmpty());
        constants();
        constructors(face);
        methods(face);
        Check.due("classes inside at most", Math.min(12, face.getDeclaredClasses().length), face.getDeclaredClasses().length);
        for (Class<?> inner : face.getDeclaredClasses()) inside(inner);
        Check.end();
    }

    private static void constants() {
        Check.due("BAD", TaughtHours.BAD, -1);
        Check.due("NOT", TaughtHours.NOT, -2);
        Check.due("FULL", TaughtHours.FULL, -3);
        Check.due("NONE", TaughtHours.NONE, -4);
        Check.due("NULL", TaughtHours.NULL, -11);
        Check.due("CAST", TaughtHours.CAST, -12);
        Check.due("INDEX", TaughtHours.INDEX, -13);
        Check.due("SIZE", TaughtHours.SIZE, -14);
        Set<String> open = new TreeSet<>();
        for (Field f : TaughtHours.class.getDeclaredFields()) {
            if (Modifier.isStatic(f.getModifiers())) Check.holds("static is final: " + f.getName(), Modifier.isFinal(f.getModifiers()));
            if (!Modifier.isPrivate(f.getModifiers())) open.add(f.getName());
        }
        Check.holds("constants " + open, open.equals(new TreeSet<>(
            Arrays.asList("BAD", "NOT", "FULL", "NONE", "NULL", "CAST", "INDEX", "SIZE"))));
    }

    private static void constructors(Class<?> face) {
        Constructor<?>[] all = face.getDeclaredConstructors();
        Check.due("constructors", all.length, 1);
        Check.holds("constructor", Modifier.isPublic(all[0].getModifiers()) && all[0].getParameterCount() == 0);
    }

    private static void methods(Class<?> face) {
        Set<String> open = new TreeSet<>();
        Set<String> names = new TreeSet<>();
        for (Method m : face.getDeclaredMethods()) {
            if (Modifier.isPrivate(m.getModifiers())) continue;
            open.add(m.getName() + Arrays.toString(m.getParameterTypes()).replace(" ", "").replace('[', '(').replace(']', ')'));
            names.add(m.getName());
            Check.holds(m.getName() + " is public, answers an int",
                Modifier.isPublic(m.getModifiers()) && !Modifier.isStatic(m.getModifiers()) && m.getReturnType() == int.class);
        }
        Check.holds("methods " + open, open.equals(new TreeSet<>(Arrays.asList(METHODS))));
        for (Method m : face.getDeclaredMethods()) {
            if (Modifier.isPrivate(m.getModifiers())) Check.holds("private, but named as a public one: " + m.getName(), !names.contains(m.getName()));
        }
        for (Class<?> inner : face.getDeclaredClasses()) {
            for (Method m : inner.getDeclaredMethods()) {
                Check.holds("inside, but named as a public one: " + m.getName(), !names.contains(m.getName()));
                Check.holds("parameters of " + m.getName(), m.getParameterCount() <= 7);
            }
        }
    }

    private static void inside(Class<?> inner) {
        Check.holds(inner.getName() + " is static", Modifier.isStatic(inner.getModifiers()));
        Check.holds(inner.getName() + " is not public", !Modifier.isPublic(inner.getModifiers()) && !Modifier.isProtected(inner.getModifiers()));
        Check.holds(inner.getName() + " has some twenty fields at most", inner.getDeclaredFields().length <= 20);
    }
}
