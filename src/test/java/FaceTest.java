import java.lang.reflect.Constructor;
import java.lang.reflect.Field;
import java.lang.reflect.Method;
import java.lang.reflect.Modifier;
import java.util.Arrays;
import java.util.TreeSet;

/** The public face: what the document has, and nothing beside it. */
public final class FaceTest {
    private static final Check CHECK = new Check("FaceTest");
    private static final String[] FACE = {
        "int feed(int, int, int, int, int)", "boolean end(int)", "int assemble()", "int fault(int)", "int made(int)",
        "boolean mount(int)", "boolean begin(int, int)", "boolean halt(int)", "boolean key(int, int)",
        "boolean set(int, int)", "boolean deposit(int, int, int)", "int run(int)", "int user(int, int)",
        "int look(int)", "int word(int, int)", "int core(int, int)", "int drum(int, int)", "int slot(int, int)",
        "int block(int, int, int)", "int paper(int, int)"
    };

    public static void main(String[] args) {
        theClass();
        constructors();
        methods();
        fields();
        classesInside();
        CHECK.finish();
    }

    private static void theClass() {
        int modifiers = ShareEight.class.getModifiers();
        CHECK.due("the class is", Modifier.toString(modifiers), "public final");
        CHECK.due("its name", ShareEight.class.getName(), "ShareEight");
        CHECK.due("it is a class above", ShareEight.class.getSuperclass().getName(), "java.lang.Object");
        CHECK.due("interfaces", ShareEight.class.getInterfaces().length, 0);
    }

    private static void constructors() {
        TreeSet<String> seen = new TreeSet<>();
        for (Constructor<?> constructor : ShareEight.class.getDeclaredConstructors()) {
            seen.add(Modifier.toString(constructor.getModifiers()) + types(constructor.getParameterTypes()));
        }
        CHECK.due("constructors", seen.toString(), "[public(int, int, int, int)]");
    }

    private static void methods() {
        TreeSet<String> seen = new TreeSet<>();
        for (Method method : ShareEight.class.getDeclaredMethods()) {
            int modifiers = method.getModifiers();
            if (Modifier.isPrivate(modifiers) || method.isSynthetic()) {
                notOfTheFace(method);
                continue;
            }
            CHECK.due(method.getName() + " is", Modifier.toString(modifiers), "public");
            CHECK.due(method.getName() + " throws", method.getExceptionTypes().length, 0);
            seen.add(method.getReturnType() + " " + method.getName() + types(method.getParameterTypes()));
        }
        CHECK.due("methods", seen.toString(), new TreeSet<>(Arrays.asList(FACE)).toString());
    }

    private static void notOfTheFace(Method method) {
        boolean found = false;
        for (String call : FACE) {
            found |= call.contains(" " + method.getName() + "(");
        }
        CHECK.due("a public method has the name of " + method, found, false);
    }

    private static String types(Class<?>[] types) {
        StringBuilder text = new StringBuilder("(");
        for (int i = 0; i < types.length; i++) {
            text.append(i == 0 ? "" : ", ").append(types[i]);
        }
        return text.append(')').toString();
    }

    private static void fields() {
        TreeSet<String> seen = new TreeSet<>();
        for (Field field : ShareEight.class.getDeclaredFields()) {
            if (Modifier.isStatic(field.getModifiers())) {
                CHECK.due(field.getName() + " is final", Modifier.isFinal(field.getModifiers()), true);
            }
            if (!Modifier.isPrivate(field.getModifiers())) {
                seen.add(Modifier.toString(field.getModifiers()) + " " + field.getType() + " " + field.getName());
            }
        }
        CHECK.due("fields", seen.toString(), "[public static final int NONE]");
        CHECK.due("NONE", ShareEight.NONE, -1);
    }

    private static void classesInside() {
        for (Class<?> inside : ShareEight.class.getDeclaredClasses()) {
            CHECK.due(inside.getName() + " is static", Modifier.isStatic(inside.getModifiers()), true);
            CHECK.due(inside.getName() + " is public", Modifier.isPublic(inside.getModifiers()), false);
            CHECK.due(inside.getName() + " is protected", Modifier.isProtected(inside.getModifiers()), false);
        }
    }
}
