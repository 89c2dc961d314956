import java.lang.reflect.Constructor;
import java.lang.reflect.Field;
import java.lang.reflect.Method;
import java.lang.reflect.Modifier;
import java.util.ArrayList;
import java.util.List;
import java.util.TreeSet;

/** The public face is the document's, and the classes inside keep to LANGUAGE.md. */
public final class FaceTest {
    private static final Check CHECK = new Check();
    private static final String ARGUMENT = "IllegalArgumentException";
    private static final String STATE = "IllegalStateException";
    private static final String ELEMENT = "NoSuchElementException";

    public static void main(String[] args) {
        face();
        insides();
        CHECK.end("FaceTest");
    }

    private static void face() {
        TreeSet<String> want = new TreeSet<>(List.of(
                "void put(int,int,int)" + ARGUMENT,
                "int degree(int)" + ARGUMENT,
                "int roots(int)" + ARGUMENT + STATE,
                "int repeated(int)" + ARGUMENT + STATE,
                "int sign(int,long,int)" + ARGUMENT + STATE,
                "int between(int,long,int,long,int)" + ARGUMENT + STATE,
                "int multiple(int,int)" + ARGUMENT + STATE + ELEMENT,
                "int side(int,int,long,int)" + ARGUMENT + STATE + ELEMENT,
                "int floor(int,int,boolean,int)" + ARGUMENT + STATE + ELEMENT,
                "int apart(int)" + ARGUMENT + STATE,
                "int order(int,int)" + STATE + ELEMENT,
                "int signAt(int,int)" + ARGUMENT + STATE + ELEMENT,
                "int common()" + STATE,
                "long out(int)" + ELEMENT));
        TreeSet<String> got = new TreeSet<>();
        for (Method m : SturmDesk.class.getDeclaredMethods()) {
            if (!Modifier.isPrivate(m.getModifiers())) {
                got.add(told(m));
            }
        }
        CHECK.dueText("the face", got.toString(), want.toString());
        CHECK.due("public and final", SturmDesk.class.getModifiers() & (Modifier.PUBLIC | Modifier.FINAL),
                Modifier.PUBLIC | Modifier.FINAL);
        Constructor<?>[] made = SturmDesk.class.getConstructors();
        CHECK.due("one constructor", made.length, 1);
        CHECK.due("its parameters", made[0].getParameterCount(), 0);
    }

    private static String told(Method m) {
        StringBuilder all = new StringBuilder(m.getReturnType().getName());
        all.append(' ').append(m.getName()).append('(');
        for (int k = 0; k < m.getParameterCount(); k++) {
            all.append(k > 0 ? "," : "").append(m.getParameterTypes()[k].getName());
        }
        all.append(')');
        for (Class<?> thrown : m.getExceptionTypes()) {
            all.append(thrown.getSimpleName());
        }
        return all.toString();
    }

    private static void insides() {
        TreeSet<String> names = new TreeSet<>();
        for (Method m : SturmDesk.class.getMethods()) {
            if (m.getDeclaringClass() == SturmDesk.class) {
                names.add(m.getName());
            }
        }
        for (Field f : SturmDesk.class.getDeclaredFields()) {
            CHECK.due("field " + f.getName() + " is private", Modifier.isPrivate(f.getModifiers()) ? 1 : 0, 1);
        }
        List<Class<?>> all = new ArrayList<>(List.of(SturmDesk.class.getDeclaredClasses()));
        CHECK.due("no more than twelve classes", all.size() + 1 <= 12 ? 1 : 0, 1);
        for (Class<?> c : all) {
            CHECK.due(c.getName() + " is static", Modifier.isStatic(c.getModifiers()) ? 1 : 0, 1);
            CHECK.due(c.getName() + " is not public", Modifier.isPublic(c.getModifiers()) ? 1 : 0, 0);
            for (Field f : c.getDeclaredFields()) {
                boolean state = Modifier.isStatic(f.getModifiers()) && !Modifier.isFinal(f.getModifiers());
                CHECK.due("static state " + f, state ? 1 : 0, 0);
            }
            for (Method m : c.getDeclaredMethods()) {
                CHECK.due("a public name inside: " + m, names.contains(m.getName()) ? 1 : 0, 0);
            }
        }
    }
}
