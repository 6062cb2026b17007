import java.lang.reflect.Constructor;
import java.lang.reflect.Field;
import java.lang.reflect.Method;
import java.lang.reflect.Modifier;
import java.util.Arrays;
import java.util.Set;
import java.util.TreeSet;

/** The public face is the document's, and nothing else of the class can be reached from outside. */
public final class FaceTest {
    private static final Set<String> METHODS = Set.of(
        "int alloc(int,int,int)", "void move(int,int)", "boolean drop(int)", "int read(int,int,int)",
        "int write(int,int,int)", "int tag(int)", "boolean same(int,int)", "int where(int)", "int begin()",
        "int work(int)", "int collect()", "int region(int,int)", "int count(int)");

    private static final Check CHECK = new Check();

    public static void main(String[] args) {
        CHECK.due("NONE", ForwardHeap.NONE, -1);
        CHECK.due("the class is public and final", ForwardHeap.class.getModifiers(), Modifier.PUBLIC | Modifier.FINAL);
        methodsAreTheFace();
        constructorIsTheFace();
        fieldsAreTheFace();
        CHECK.end();
    }

    private static void methodsAreTheFace() {
        Set<String> seen = new TreeSet<>();
        Set<String> names = new TreeSet<>();
        for (Method method : ForwardHeap.class.getDeclaredMethods()) {
            if (Modifier.isPrivate(method.getModifiers())) {
                CHECK.due("a private method is named " + method.getName(),
                    METHODS.stream().anyMatch(face -> face.contains(" " + method.getName() + "(")), false);
                continue;
            }
            names.add(method.getName());
            seen.add(method.getReturnType() + " " + method.getName() + parameters(method.getParameterTypes()));
            CHECK.due(method + " is public and no more", method.getModifiers(), Modifier.PUBLIC);
        }
        CHECK.due("the methods are " + seen, seen.equals(METHODS), true);
        CHECK.due("names", names.size(), 13);
    }

    private static void constructorIsTheFace() {
        Constructor<?>[] constructors = ForwardHeap.class.getDeclaredConstructors();
        CHECK.due("constructors", constructors.length, 1);
        CHECK.due("constructor", parameters(constructors[0].getParameterTypes()).equals("(int,int)"), true);
        CHECK.due("constructor's modifiers", constructors[0].getModifiers(), Modifier.PUBLIC);
    }

    private static void fieldsAreTheFace() {
        for (Field field : ForwardHeap.class.getDeclaredFields()) {
            boolean none = field.getName().equals("NONE");
            CHECK.due("public " + field.getName(), Modifier.isPublic(field.getModifiers()), none);
            CHECK.due("private " + field.getName(), Modifier.isPrivate(field.getModifiers()), !none);
        }
    }

    private static String parameters(Class<?>[] types) {
        return Arrays.stream(types).map(Class::getName).reduce((a, b) -> a + "," + b)
            .map(list -> "(" + list + ")").orElse("()");
    }
}
