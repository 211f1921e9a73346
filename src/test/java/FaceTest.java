import java.lang.reflect.Constructor;
import java.lang.reflect.Field;
import java.lang.reflect.Method;
import java.lang.reflect.Modifier;
import java.util.TreeSet;

/** The face is that of the document, with nothing more to be seen from outside. */
public final class FaceTest {
    private static final String ILLEGAL = " IllegalArgumentException";
    private static final String OUT_OF_BOUNDS = " IndexOutOfBoundsException";
    private static final String[] METHODS = {
        "void image(int long)" + ILLEGAL, "int input(long int)" + ILLEGAL + OUT_OF_BOUNDS, "void begin()",
        "int run(int)" + ILLEGAL, "int register(int)" + OUT_OF_BOUNDS, "int unknown(int)" + OUT_OF_BOUNDS,
        "int memory(int)" + OUT_OF_BOUNDS, "int error(int int)" + ILLEGAL + OUT_OF_BOUNDS,
        "int output(int)" + OUT_OF_BOUNDS, "int count(int)" + ILLEGAL,
    };

    public static void main(String[] args) {
        Class<?> face = ShadowHost.class;
        Check.due("public and final", face.getModifiers(), Modifier.PUBLIC | Modifier.FINAL);
        TreeSet<String> want = new TreeSet<>(java.util.List.of(METHODS));
        TreeSet<String> got = new TreeSet<>();
        for (Method m : face.getDeclaredMethods()) {
            if (!Modifier.isPrivate(m.getModifiers())) {
                got.add(told(m));
            }
        }
        System.out.println(got.equals(want) ? "the methods are those of the document" : got + " but due is " + want);
        Check.due("the methods are those of the document", got.equals(want) ? 1 : 0, 1);
        for (Field f : face.getDeclaredFields()) {
            Check.due("field " + f.getName() + " is private", Modifier.isPrivate(f.getModifiers()) ? 1 : 0, 1);
        }
        Constructor<?>[] made = face.getDeclaredConstructors();
        Check.due("constructors", made.length, 1);
        Check.due("it is public", made[0].getModifiers(), Modifier.PUBLIC);
        Check.due("its parameters", made[0].getParameterCount(), 0);
        classesInside(face);
        Check.finish();
    }

    private static String told(Method m) {
        StringBuilder text = new StringBuilder();
        for (Class<?> c : m.getParameterTypes()) {
            text.append(text.length() == 0 ? "" : " ").append(c);
        }
        StringBuilder thrown = new StringBuilder();
        for (Class<?> c : m.getExceptionTypes()) {
            thrown.append(" ").append(c.getSimpleName());
        }
        return m.getReturnType() + " " + m.getName() + "(" + text + ")" + thrown;
    }

    /** LANGUAGE.md, rules 1, 5 and 11; "some twelve" and "some twenty" there are no sharp bounds. */
    private static void classesInside(Class<?> face) {
        Class<?>[] inside = face.getDeclaredClasses();
        Check.due("some twelve classes", inside.length + 1 <= 15 ? 1 : 0, 1);
        ownNames(face);
        for (Class<?> c : inside) {
            int m = c.getModifiers();
            Check.due(c + " is static", Modifier.isStatic(m) ? 1 : 0, 1);
            Check.due(c + " is hidden", Modifier.isPublic(m) || Modifier.isProtected(m) ? 1 : 0, 0);
            int fields = 0;
            for (Field f : c.getDeclaredFields()) {
                if (Modifier.isStatic(f.getModifiers())) {
                    Check.due(f + " is final", Modifier.isFinal(f.getModifiers()) ? 1 : 0, 1);
                } else {
                    fields++;
                }
            }
            Check.due(c + " has some twenty fields", fields <= 25 ? 1 : 0, 1);
            ownNames(c);
        }
    }

    private static void ownNames(Class<?> c) {
        for (Method own : c.getDeclaredMethods()) {
            for (String name : METHODS) {
                boolean same = name.contains(" " + own.getName() + "(");
                Check.due(own + " is private and has the name of a public one", same && Modifier.isPrivate(own.getModifiers()) ? 1 : 0, 0);
            }
        }
    }
}
