import java.lang.reflect.Constructor;
import java.lang.reflect.Field;
import java.lang.reflect.Method;
import java.lang.reflect.Modifier;
import java.util.Arrays;
import java.util.Set;
import java.util.TreeSet;
import java.util.stream.Collectors;
import java.util.stream.Stream;

/** The public face, exactly as the document prints it, and no other member that others could see. */
public final class FaceTest {
    private static final String[] FACE = {
        "int setWeather(int, int, int, int) throws IndexOutOfBoundsException, IllegalArgumentException",
        "int pump(int, int) throws IndexOutOfBoundsException, IllegalArgumentException, IllegalStateException",
        "boolean run(int) throws IndexOutOfBoundsException",
        "int fill(int) throws IllegalArgumentException",
        "int groom(int, int) throws IndexOutOfBoundsException, IllegalArgumentException",
        "int judge(int, int) throws IndexOutOfBoundsException, IllegalArgumentException",
        "int jump(int, int, int) throws IllegalArgumentException, IllegalStateException",
        "int told(int, int) throws IndexOutOfBoundsException",
        "int score(int) throws IndexOutOfBoundsException",
        "int leader()",
        "int part(int, int) throws IndexOutOfBoundsException",
        "int count(int) throws IndexOutOfBoundsException",
        "int pass(int) throws IllegalArgumentException",
        "int enough(int, int) throws IndexOutOfBoundsException, IllegalArgumentException",
        "int foresee(int, int) throws IllegalArgumentException, IndexOutOfBoundsException",
        "int gate(int) throws IllegalArgumentException",
        "int advise(int) throws IllegalArgumentException",
        "double mean()",
        "long digest()",
    };

    public static void main(String[] args) {
        Check check = new Check();
        Class<?> face = SnowPumps.class;
        Set<String> want = new TreeSet<>(Arrays.asList(FACE));
        Set<String> got = new TreeSet<>();
        for (Method method : face.getDeclaredMethods()) {
            if (!Modifier.isPrivate(method.getModifiers())) {
                got.add(print(method));
                check.due(method.getName() + " is public alone", method.getModifiers(), Modifier.PUBLIC);
            } else if (Stream.of(FACE).anyMatch(line -> line.contains(" " + method.getName() + "("))) {
                check.tell("a private method bears the name of a public one: " + method);
            }
        }
        if (!got.equals(want)) {
            check.tell("the methods are " + got + ", due are " + want);
        }
        check.due("the class's modifiers", face.getModifiers(), Modifier.PUBLIC | Modifier.FINAL);
        Constructor<?>[] constructors = face.getDeclaredConstructors();
        check.due("constructors", constructors.length, 1);
        check.due("a constructor without arguments", constructors[0].getParameterCount(), 0);
        check.due("a public constructor", constructors[0].getModifiers(), Modifier.PUBLIC);
        for (Field field : face.getDeclaredFields()) {
            int modifiers = field.getModifiers();
            check.due(field.getName() + " is private", Modifier.isPrivate(modifiers), true);
            check.due(field.getName() + " is final if static",
                    !Modifier.isStatic(modifiers) || Modifier.isFinal(modifiers), true);
        }
        for (Class<?> inside : face.getDeclaredClasses()) {
            check.due(inside.getName() + " is public", Modifier.isPublic(inside.getModifiers()), false);
            check.due(inside.getName() + " is static", Modifier.isStatic(inside.getModifiers()), true);
        }
        check.finish();
    }

    private static String print(Method method) {
        String line = method.getReturnType().getSimpleName() + " " + method.getName() + "("
                + names(method.getParameterTypes()) + ")";
        Class<?>[] thrown = method.getExceptionTypes();
        return thrown.length == 0 ? line : line + " throws " + names(thrown);
    }

    private static String names(Class<?>[] types) {
        return Stream.of(types).map(Class::getSimpleName).collect(Collectors.joining(", "));
    }
}
