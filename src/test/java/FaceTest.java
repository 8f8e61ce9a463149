import java.lang.reflect.Constructor;
import java.lang.reflect.Field;
import java.lang.reflect.Method;
import java.lang.reflect.Modifier;
import java.util.Set;
import java.util.TreeSet;

/** The public face, and LANGUAGE.md's rules 1, 5 and 11 as far as the class itself can tell. */
public final class FaceTest {
    private static final Set<String> FACE = Set.of(
            "int feed(int,int,int,int,int) IllegalStateException",
            "int end(int) IllegalArgumentException",
            "void change(int,int) IllegalArgumentException",
            "int press()",
            "int open() ArithmeticException",
            "int turn() IllegalStateException",
            "long hash(int) IllegalArgumentException",
            "int letter(int) IndexOutOfBoundsException",
            "int count(int)");

    public static void main(String[] args) {
        Class<?> type = TextPress.class;
        Check.due("the class's modifiers", type.getModifiers(), Modifier.PUBLIC | Modifier.FINAL);
        Set<String> face = new TreeSet<>();
        for (Method method : type.getDeclaredMethods()) {
            if (!Modifier.isPrivate(method.getModifiers())) {
                face.add(told(method));
            }
        }
        face.removeAll(FACE);
        Check.due("methods beyond the face " + face, face.size(), 0);
        Check.due("methods of the face", publicMethods(type), FACE.size());
        Constructor<?>[] constructors = type.getDeclaredConstructors();
        Check.due("constructors", constructors.length, 1);
        Check.due("the constructor's modifiers", constructors[0].getModifiers(), Modifier.PUBLIC);
        Check.due("its parameters", constructors[0].getParameterCount(), 0);
        fields(type);
        inner(type);
        Check.finish();
    }

    private static String told(Method method) {
        StringBuilder told = new StringBuilder(method.getReturnType().getSimpleName());
        told.append(' ').append(method.getName()).append('(');
        String gap = "";
        for (Class<?> parameter : method.getParameterTypes()) {
            told.append(gap).append(parameter.getSimpleName());
            gap = ",";
        }
        told.append(')');
        for (Class<?> exception : method.getExceptionTypes()) {
            told.append(' ').append(exception.getSimpleName());
        }
        return told.toString();
    }

    private static int publicMethods(Class<?> type) {
        int n = 0;
        for (Method method : type.getDeclaredMethods()) {
            n += Modifier.isPublic(method.getModifiers()) ? 1 : 0;
        }
        return n;
    }

    private static void fields(Class<?> type) {
        int own = 0;
        for (Field field : type.getDeclaredFields()) {
            int modifiers = field.getModifiers();
            String name = type.getSimpleName() + "." + field.getName();
            Check.due(name + " is private", modifiers & Modifier.PRIVATE, Modifier.PRIVATE);
            if (Modifier.isStatic(modifiers)) {
                Check.due(name + " is final", modifiers & Modifier.FINAL, Modifier.FINAL);
            } else {
                own++;
            }
        }
        Check.due(type.getSimpleName() + " has more than twenty fields", own > 20 ? 1 : 0, 0);
    }

    private static void inner(Class<?> type) {
        Class<?>[] classes = type.getDeclaredClasses();
        Check.due("more than twelve classes", classes.length > 11 ? 1 : 0, 0);
        for (Class<?> one : classes) {
            int modifiers = one.getModifiers();
            String name = one.getSimpleName();
            Check.due(name + " is static", modifiers & Modifier.STATIC, Modifier.STATIC);
            Check.due(name + " is hidden", modifiers & (Modifier.PUBLIC | Modifier.PROTECTED), 0);
            fields(one);
            for (Method method : one.getDeclaredMethods()) {
                for (String face : FACE) {
                    boolean taken = face.contains(" " + method.getName() + "(");
                    Check.due(name + "." + method.getName() + " bears a name of the face", taken ? 1 : 0, 0);
                }
                Check.due(method + " has too many parameters", method.getParameterCount() > 7 ? 1 : 0, 0);
            }
        }
    }
}
