import java.lang.reflect.Constructor;
import java.lang.reflect.Field;
import java.lang.reflect.Method;
import java.lang.reflect.Modifier;
import java.util.Set;
import java.util.TreeSet;

/** The class has the face of the document, and no other member that a caller could see. */
public final class FaceTest {
    private static final Set<String> FACE = Set.of(
        "int add(int,int,int,int,int) throws IllegalArgumentException,IllegalStateException",
        "int remove(int) throws NoSuchElementException",
        "int recolour(int,int) throws NoSuchElementException",
        "int field(int,int) throws IllegalArgumentException,NoSuchElementException",
        "void corner(int,int,int) throws IllegalArgumentException",
        "int box(int,int,int,int) throws IllegalArgumentException",
        "int next() throws NoSuchElementException",
        "int count(int,int,int) throws IllegalArgumentException",
        "int nearest(int,int,int,int) throws IllegalArgumentException,NoSuchElementException",
        "int kept(int,int,int,int,int) throws IllegalArgumentException,NoSuchElementException",
        "int commit() throws IllegalStateException,UnsupportedOperationException",
        "void charge(int) throws IllegalArgumentException",
        "int open()",
        "int state(int)",
        "long rank(int)");

    public static void main(String[] args) {
        Check check = new Check();
        check.due("modifiers of the class", "public final", Modifier.toString(PointShelf.class.getModifiers()));
        check.due("methods", new TreeSet<>(FACE).toString(), visibleMethods().toString());
        check.due("private methods with a name of the face", "[]", sharedNames().toString());
        for (Field field : PointShelf.class.getDeclaredFields()) {
            check.due("field " + field.getName() + " is private", 1, Modifier.isPrivate(field.getModifiers()) ? 1 : 0);
        }
        for (Constructor<?> constructor : PointShelf.class.getDeclaredConstructors()) {
            check.due("constructor", "public PointShelf()", constructor.toString());
        }
        for (Class<?> inside : PointShelf.class.getDeclaredClasses()) {
            checkInside(check, inside);
        }
        check.end("FaceTest");
    }

    private static void checkInside(Check check, Class<?> inside) {
        int seen = inside.getModifiers() & (Modifier.PUBLIC | Modifier.PROTECTED);
        check.due(inside.getName() + " is seen from outside", 0, seen);
        check.due(inside.getName() + " is static", 1, Modifier.isStatic(inside.getModifiers()) ? 1 : 0);
    }

    private static Set<String> visibleMethods() {
        Set<String> seen = new TreeSet<>();
        for (Method method : PointShelf.class.getDeclaredMethods()) {
            if (!Modifier.isPrivate(method.getModifiers())) {
                seen.add(signature(method));
            }
        }
        return seen;
    }

    private static Set<String> sharedNames() {
        Set<String> face = new TreeSet<>();
        Set<String> own = new TreeSet<>();
        for (Method method : PointShelf.class.getDeclaredMethods()) {
            (Modifier.isPrivate(method.getModifiers()) ? own : face).add(method.getName());
        }
        own.retainAll(face);
        return own;
    }

    private static String signature(Method method) {
        StringBuilder text = new StringBuilder(method.getReturnType() + " " + method.getName() + "(");
        text.append(names(method.getParameterTypes())).append(")");
        if (method.getExceptionTypes().length > 0) {
            text.append(" throws ").append(names(method.getExceptionTypes()));
        }
        return text.toString();
    }

    private static String names(Class<?>[] types) {
        StringBuilder text = new StringBuilder();
        for (Class<?> type : types) {
            text.append(text.length() == 0 ? "" : ",").append(type.getSimpleName());
        }
        return text.toString();
    }
}
