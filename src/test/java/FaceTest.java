import java.lang.reflect.Constructor;
import java.lang.reflect.Field;
import java.lang.reflect.Method;
import java.lang.reflect.Modifier;
import java.util.Arrays;
import java.util.Map;
import java.util.Set;
import java.util.TreeSet;
import java.util.stream.Collectors;

/** The public face is the document's, and nothing else of the class can be reached from outside. */
public final class FaceTest {
    private static final Set<String> METHODS = Set.of(
        "int alloc(int,int,int) index argument", "void move(int,int) index", "boolean drop(int) index",
        "int read(int,int,int) index state", "int write(int,int,int) index state", "int tag(int) index state",
        "boolean same(int,int) index", "int where(int) index", "int begin()", "int work(int) argument",
        "int collect()", "int region(int,int) index", "int count(int)");

    private static final Map<Class<?>, String> THROWN = Map.of(
        IndexOutOfBoundsException.class, " index",
        IllegalStateException.class, " state",
        IllegalArgumentException.class, " argument");

    private static final Check CHECK = new Check();

    public static void main(String[] args) {
        CHECK.due("NONE", ForwardHeap.NONE, -1);
        CHECK.due("the class is public and final", ForwardHeap.class.getModifiers(), Modifier.PUBLIC | Modifier.FINAL);
        methodsAreTheFace();
        constructorIsTheFace();
        fieldsAreTheFace();
        CHECK.end();
    }

    private static void methodsAreTheFace() {
        Set<String> seen = new TreeSet<>();
        Set<String> names = new TreeSet<>();
        for (Method method : ForwardHeap.class.getDeclaredMethods()) {
            if (Modifier.isPrivate(method.getModifiers())) {
                CHECK.due("a private method is named " + method.getName(),
                    METHODS.stream().anyMatch(face -> face.contains(" " + method.getName() + "(")), false);
                continue;
            }
            names.add(method.getName());
            seen.add(method.getReturnType() + " " + method.getName() + parameters(method.getParameterTypes())
                + thrown(method.getExceptionTypes()));
            CHECK.due(method + " is public and no more", method.getModifiers(), Modifier.PUBLIC);
        }
        CHECK.due("the methods are " + seen, seen.equals(METHODS), true);
        CHECK.due("names", names.size(), 13);
    }

    private static void constructorIsTheFace() {
        Constructor<?>[] constructors = ForwardHeap.class.getDeclaredConstructors();
        CHECK.due("constructors", constructors.length, 1);
        CHECK.due("constructor", parameters(constructors[0].getParameterTypes()).equals("(int,int)"), true);
        CHECK.due("constructor's modifiers", constructors[0].getModifiers(), Modifier.PUBLIC);
        CHECK.due("constructor's exceptions", constructors[0].getExceptionTypes().length, 0);
    }

    private static void fieldsAreTheFace() {
        for (Field field : ForwardHeap.class.getDeclaredFields()) {
            boolean none = field.getName().equals("NONE");
            CHECK.due("public " + field.getName(), Modifier.isPublic(field.getModifiers()), none);
            CHECK.due("private " + field.getName(), Modifier.isPrivate(field.getModifiers()), !none);
            if (none) {
                CHECK.due("NONE is an int", field.getType() == int.class, true);
                CHECK.due("NONE is a constant", field.getModifiers(), Modifier.PUBLIC | Modifier.STATIC | Modifier.FINAL);
            }
        }
    }

    private static String thrown(Class<?>[] types) {
        return Arrays.stream(types).map(type -> THROWN.getOrDefault(type, " " + type)).collect(Collectors.joining());
    }

    private static String parameters(Class<?>[] types) {
        return Arrays.stream(types).map(Class::getName).reduce((a, b) -> a + "," + b)
            .map(list -> "(" + list + ")").orElse("()");
    }
}
