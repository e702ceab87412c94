import java.lang.reflect.Constructor;
import java.lang.reflect.Field;
import java.lang.reflect.Method;
import java.lang.reflect.Modifier;
import java.util.Arrays;
import java.util.Set;
import java.util.TreeSet;

/** The document's public face, whole and with nothing beside it. */
public final class FaceTest {
    private static final String[] FACE = {
        "int clear()",
        "int addTask(int,int,int,int) IllegalArgumentException IllegalStateException UnsupportedOperationException",
        "int addSegment(int,int,int) IndexOutOfBoundsException IllegalArgumentException IllegalStateException",
        "boolean setServer(int,int,int) IllegalArgumentException IllegalStateException UnsupportedOperationException",
        "int request(int,int) IllegalArgumentException IllegalStateException",
        "int setPolicy(int) IllegalArgumentException",
        "int append(char) IllegalArgumentException IllegalStateException",
        "int configure() IllegalArgumentException IllegalStateException",
        "int errorPosition() NoSuchElementException",
        "int taskCount()",
        "int task(int,int) IndexOutOfBoundsException IllegalArgumentException",
        "int ceiling(int) IndexOutOfBoundsException",
        "int blocking(int) IndexOutOfBoundsException",
        "int bound(int) IndexOutOfBoundsException IllegalStateException NoSuchElementException",
        "int witness(int) IndexOutOfBoundsException IllegalStateException NoSuchElementException",
        "boolean isSchedulable()",
        "double load()",
        "double hyperbolicLoad()",
        "int run(int) IllegalArgumentException IllegalStateException",
        "int rewind()",
        "int clock()",
        "int ranAt(int) IndexOutOfBoundsException",
        "int pending(int) IndexOutOfBoundsException",
        "int activePriority(int) IndexOutOfBoundsException NoSuchElementException",
        "int holder(int) IndexOutOfBoundsException",
        "int result(int,int) IndexOutOfBoundsException IllegalArgumentException",
        "float averageResponse(int) IndexOutOfBoundsException ArithmeticException",
        "int balance() IllegalStateException",
        "int nextReplenishment() IllegalStateException NoSuchElementException",
        "int requestResponse(int) IndexOutOfBoundsException IllegalStateException",
        "double utilization() ArithmeticException",
        "int snapshot()",
        "int restore() IllegalStateException",
    };

    public static void main(String[] args) {
        Class<?> face = CeilingWorkbench.class;
        Check.due("public and final", face.getModifiers(), Modifier.PUBLIC | Modifier.FINAL);
        Set<String> names = methods(face);
        fieldsAndConstructors(face);
        for (Class<?> inside : face.getDeclaredClasses()) {
            inside(inside, names);
        }
        Check.end("FaceTest");
    }

    private static Set<String> methods(Class<?> face) {
        Set<String> found = new TreeSet<>();
        Set<String> publicNames = new TreeSet<>();
        Set<String> privateNames = new TreeSet<>();
        for (Method method : face.getDeclaredMethods()) {
            if (Modifier.isPrivate(method.getModifiers())) {
                privateNames.add(method.getName());
            } else {
                found.add(signature(method));
                publicNames.add(method.getName());
                Check.due(method.getName() + " is public alone", method.getModifiers(), Modifier.PUBLIC);
            }
        }
        Check.due("methods", found, new TreeSet<>(Arrays.asList(FACE)));
        privateNames.retainAll(publicNames);
        Check.due("private methods with public names", privateNames, Set.of());
        return publicNames;
    }

    private static String signature(Method method) {
        StringBuilder text = new StringBuilder(method.getReturnType().getSimpleName());
        text.append(' ').append(method.getName()).append('(');
        String comma = "";
        for (Class<?> type : method.getParameterTypes()) {
            text.append(comma).append(type.getSimpleName());
            comma = ",";
        }
        text.append(')');
        for (Class<?> type : method.getExceptionTypes()) {
            text.append(' ').append(type.getSimpleName());
        }
        return text.toString();
    }

    private static void fieldsAndConstructors(Class<?> face) {
        for (Field field : face.getDeclaredFields()) {
            Check.due(field.getName() + " is private", Modifier.isPrivate(field.getModifiers()), true);
            boolean fixed = Modifier.isFinal(field.getModifiers()) || !Modifier.isStatic(field.getModifiers());
            Check.due(field.getName() + " is final if it is static", fixed, true);
        }
        Constructor<?>[] constructors = face.getDeclaredConstructors();
        Check.due("constructors", constructors.length, 1);
        Check.due("its parameters", constructors[0].getParameterCount(), 0);
        Check.due("it is public", constructors[0].getModifiers(), Modifier.PUBLIC);
    }

    private static void inside(Class<?> inside, Set<String> names) {
        String name = inside.getSimpleName();
        Check.due(name + " is static", Modifier.isStatic(inside.getModifiers()), true);
        Check.due(name + " is not public", Modifier.isPublic(inside.getModifiers()), false);
        for (Method method : inside.getDeclaredMethods()) {
            Check.due(name + "." + method.getName() + " bears a public name", names.contains(method.getName()), false);
        }
    }
}
