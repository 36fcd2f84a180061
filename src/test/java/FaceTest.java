import java.lang.reflect.Constructor;
import java.lang.reflect.Field;
import java.lang.reflect.Method;
import java.lang.reflect.Modifier;
import java.util.Arrays;
import java.util.List;
import java.util.TreeSet;
import java.util.stream.Collectors;

/** The public face is the document's, and nothing else can be seen (LANGUAGE.md, rules 1, 5 and 11). */
public final class FaceTest {
    private static final String[] FACE = {
        "boolean index(int,int) IndexOutOfBoundsException",
        "boolean stage(int,int)",
        "boolean word(int)",
        "int cell(int,int,int) IndexOutOfBoundsException NoSuchElementException",
        "int clear()",
        "int delete(int,int) IndexOutOfBoundsException NoSuchElementException",
        "int fault()",
        "int insert(int) IndexOutOfBoundsException IllegalStateException UnsupportedOperationException",
        "int keyFrom(int,int) IndexOutOfBoundsException NoSuchElementException",
        "int out(int)",
        "int rows(int)",
        "int run(int) IllegalArgumentException IllegalStateException UnsupportedOperationException",
        "int size()",
        "int table(int) IllegalArgumentException UnsupportedOperationException",
        "int visits()",
        "int width()",
    };
    private static final Due due = new Due();

    public static void main(String[] args) {
        Class<?> face = PlannedTables.class;
        due.holds("public and final", Modifier.isPublic(face.getModifiers()) && Modifier.isFinal(face.getModifiers()));
        methods(face);
        constructors(face);
        fields(face);
        for (Class<?> inside : face.getDeclaredClasses()) {
            inside(inside);
        }
        due.end();
    }

    private static void methods(Class<?> face) {
        List<String> seen = Arrays.stream(face.getDeclaredMethods())
                .filter(m -> !Modifier.isPrivate(m.getModifiers()))
                .map(FaceTest::told).sorted().collect(Collectors.toList());
        due.holds("the methods " + seen, seen.equals(Arrays.asList(FACE)));
        due.holds("all of them public", Arrays.stream(face.getDeclaredMethods())
                .allMatch(m -> Modifier.isPublic(m.getModifiers()) || Modifier.isPrivate(m.getModifiers())));
        noSecondName(face);
    }

    private static void noSecondName(Class<?> type) {
        TreeSet<String> names = new TreeSet<>();
        for (Method m : PlannedTables.class.getMethods()) {
            if (m.getDeclaringClass() == PlannedTables.class) {
                names.add(m.getName());
            }
        }
        for (Method m : type.getDeclaredMethods()) {
            due.holds(type + " " + m.getName() + " has a name of its own",
                    Modifier.isPublic(m.getModifiers()) || !names.contains(m.getName()));
            due.holds(type + " " + m.getName() + " has at most seven parameters", m.getParameterCount() <= 7);
        }
    }

    private static String told(Method m) {
        StringBuilder text = new StringBuilder(m.getReturnType().getName() + " " + m.getName() + "(");
        text.append(Arrays.stream(m.getParameterTypes()).map(Class::getName).collect(Collectors.joining(",")));
        text.append(")");
        for (Class<?> thrown : m.getExceptionTypes()) {
            text.append(" ").append(thrown.getSimpleName());
        }
        return text.toString();
    }

    private static void constructors(Class<?> face) {
        Constructor<?>[] all = face.getDeclaredConstructors();
        due.same("constructors", all.length, 1);
        due.holds("it is public and takes nothing",
                Modifier.isPublic(all[0].getModifiers()) && all[0].getParameterCount() == 0);
    }

    private static void fields(Class<?> face) {
        for (Field f : face.getDeclaredFields()) {
            boolean shown = !Modifier.isPrivate(f.getModifiers());
            due.holds("field " + f.getName(), !shown || f.getName().equals("NONE"));
            due.holds("static field " + f.getName() + " is final",
                    !Modifier.isStatic(f.getModifiers()) || Modifier.isFinal(f.getModifiers()));
        }
        try {
            Field none = face.getField("NONE");
            due.holds("NONE is a constant int", none.getType() == int.class && Modifier.isStatic(none.getModifiers()));
            due.same("NONE", none.getInt(null), -1);
        } catch (ReflectiveOperationException e) {
            due.holds("NONE", false);
        }
    }

    private static void inside(Class<?> inside) {
        int m = inside.getModifiers();
        due.holds(inside + " is static", Modifier.isStatic(m));
        due.holds(inside + " is private or package-visible", !Modifier.isPublic(m) && !Modifier.isProtected(m));
        due.holds(inside + " has at most twenty fields", inside.getDeclaredFields().length <= 20);
        noSecondName(inside);
    }
}
