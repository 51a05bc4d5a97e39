import java.lang.reflect.Constructor;
import java.lang.reflect.Field;
import java.lang.reflect.Method;
import java.lang.reflect.Modifier;
import java.nio.file.Files;
import java.nio.file.Path;
import java.util.ArrayList;
import java.util.Arrays;
import java.util.List;
import java.util.Set;
import java.util.TreeSet;
import java.util.regex.Matcher;
import java.util.regex.Pattern;
import java.util.stream.Collectors;
import java.util.stream.Stream;

/** The public face, exactly as the document prints it, and no other member that others could see. */
public final class FaceTest {
    private static final String[] FACE = {
        "int setWeather(int, int, int, int) throws IndexOutOfBoundsException, IllegalArgumentException",
        "int pump(int, int) throws IndexOutOfBoundsException, IllegalArgumentException, IllegalStateException",
        "boolean run(int) throws IndexOutOfBoundsException",
        "int fill(int) throws IllegalArgumentException",
        "int groom(int, int) throws IndexOutOfBoundsException, IllegalArgumentException",
        "int judge(int, int) throws IndexOutOfBoundsException, IllegalArgumentException",
        "int jump(int, int, int) throws IllegalArgumentException, IllegalStateException",
        "int told(int, int) throws IndexOutOfBoundsException",
        "int score(int) throws IndexOutOfBoundsException",
        "int leader()",
        "int part(int, int) throws IndexOutOfBoundsException",
        "int count(int) throws IndexOutOfBoundsException",
        "int pass(int) throws IllegalArgumentException",
        "int enough(int, int) throws IndexOutOfBoundsException, IllegalArgumentException",
        "int foresee(int, int) throws IllegalArgumentException, IndexOutOfBoundsException",
        "int gate(int) throws IllegalArgumentException",
        "int advise(int) throws IllegalArgumentException",
        "double mean()",
        "long digest()",
    };

    /** "Ahead of the calls .. the interface says": the headings, and the calls behind each, in the document's order. */
    private static final List<String> HEADINGS_AND_CALLS = List.of(
            "---- weather and pumps", "setWeather", "pump", "run", "fill", "groom",
            "---- jumps", "judge", "jump", "told", "score", "leader",
            "---- what is there", "part", "count",
            "---- hours and what would be", "pass", "enough", "foresee", "gate", "advise", "mean", "digest");

    private static final Pattern HEADING_OR_CALL = Pattern.compile(" {4}(?:// (----.*)|public \\w+ (\\w+)\\(.*)");

    public static void main(String[] args) throws Exception {
        Check check = new Check();
        headings(check);
        Class<?> face = SnowPumps.class;
        Set<String> want = new TreeSet<>(Arrays.asList(FACE));
        Set<String> got = new TreeSet<>();
        for (Method method : face.getDeclaredMethods()) {
            if (!Modifier.isPrivate(method.getModifiers())) {
                got.add(print(method));
                check.due(method.getName() + " is public alone", method.getModifiers(), Modifier.PUBLIC);
            } else if (Stream.of(FACE).anyMatch(line -> line.contains(" " + method.getName() + "("))) {
                check.tell("a private method bears the name of a public one: " + method);
            }
        }
        if (!got.equals(want)) {
            check.tell("the methods are " + got + ", due are " + want);
        }
        check.due("the class's modifiers", face.getModifiers(), Modifier.PUBLIC | Modifier.FINAL);
        Constructor<?>[] constructors = face.getDeclaredConstructors();
        check.due("constructors", constructors.length, 1);
        check.due("a constructor without arguments", constructors[0].getParameterCount(), 0);
        check.due("a public constructor", constructors[0].getModifiers(), Modifier.PUBLIC);
        for (Field field : face.getDeclaredFields()) {
            int modifiers = field.getModifiers();
            check.due(field.getName() + " is private", Modifier.isPrivate(modifiers), true);
            check.due(field.getName() + " is final if static",
                    !Modifier.isStatic(modifiers) || Modifier.isFinal(modifiers), true);
        }
        for (Class<?> inside : face.getDeclaredClasses()) {
            check.due(inside.getName() + " is public", Modifier.isPublic(inside.getModifiers()), false);
            check.due(inside.getName() + " is static", Modifier.isStatic(inside.getModifiers()), true);
        }
        check.finish();
    }

    private static void headings(Check check) throws Exception {
        List<String> got = new ArrayList<>();
        for (String line : Files.readAllLines(Path.of("src/main/java/SnowPumps.java"))) {
            Matcher matcher = HEADING_OR_CALL.matcher(line);
            if (matcher.matches()) {
                got.add(matcher.group(1) == null ? matcher.group(2) : matcher.group(1));
            }
        }
        if (!got.equals(HEADINGS_AND_CALLS)) {
            check.tell("the headings and calls are " + got + ", due are " + HEADINGS_AND_CALLS);
        }
    }

    private static String print(Method method) {
        String line = method.getReturnType().getSimpleName() + " " + method.getName() + "("
                + names(method.getParameterTypes()) + ")";
        Class<?>[] thrown = method.getExceptionTypes();
        return thrown.length == 0 ? line : line + " throws " + names(thrown);
    }

    private static String names(Class<?>[] types) {
        return Stream.of(types).map(Class::getSimpleName).collect(Collectors.joining(", "));
    }
}
