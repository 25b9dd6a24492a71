import java.lang.reflect.Constructor;
import java.lang.reflect.Field;
import java.lang.reflect.Method;
import java.lang.reflect.Modifier;
import java.util.Arrays;
import java.util.TreeSet;

/** The public face of the document, and nothing beside it (LANGUAGE.md, rules 1 and 5). */
final class FaceTest {
    private static final Check CHECK = new Check();
    private static final String BAD = " throws IllegalArgumentException";
    private static final String[] FACE = {
        "void code(int, int, int, int, int, int)" + BAD, "void cell(int, double)" + BAD, "void start(int)" + BAD,
        "int run(int)" + BAD + " IllegalStateException IndexOutOfBoundsException ArithmeticException",
        "int schedule()", "int whole(int)" + BAD, "double fraction(int)" + BAD, "double memory(int)" + BAD,
        "int told(int, int)" + BAD, "int count(int)"};

    public static void main(String[] args) {
        Class<?> face = PipeComputer.class;
        CHECK.due("modifiers of the class", face.getModifiers(), Modifier.PUBLIC | Modifier.FINAL);
        TreeSet<String> names = methodsOf(face);
        constructorsOf(face);
        fieldsOf(face);
        for (Class<?> inside : face.getDeclaredClasses()) {
            CHECK.due(inside + " is static", Modifier.isStatic(inside.getModifiers()) ? 1 : 0, 1);
            for (Method method : inside.getDeclaredMethods()) {
                if (names.contains(method.getName())) {
                    CHECK.tell(inside + " has a method with the name of a public one: " + method.getName());
                }
            }
            fieldsOf(inside);
        }
        CHECK.end();
    }

    private static TreeSet<String> methodsOf(Class<?> face) {
        TreeSet<String> names = new TreeSet<>();
        TreeSet<String> open = new TreeSet<>();
        for (Method method : face.getDeclaredMethods()) {
            if (!Modifier.isPrivate(method.getModifiers())) {
                names.add(method.getName());
                open.add(describe(method));
            }
        }
        TreeSet<String> want = new TreeSet<>(Arrays.asList(FACE));
        if (!open.equals(want)) {
            CHECK.tell("the face is " + open + ", due is " + want);
        }
        for (Method method : face.getDeclaredMethods()) {
            if (Modifier.isPrivate(method.getModifiers()) && names.contains(method.getName())) {
                CHECK.tell("a private method has the name of a public one: " + method.getName());
            }
        }
        return names;
    }

    private static String describe(Method method) {
        String types = Arrays.toString(method.getParameterTypes());
        StringBuilder text = new StringBuilder(method.getReturnType() + " " + method.getName());
        text.append("(").append(types, 1, types.length() - 1).append(")");
        Class<?>[] thrown = method.getExceptionTypes();
        for (int k = 0; k < thrown.length; k++) {
            text.append(k == 0 ? " throws " : " ").append(thrown[k].getSimpleName());
        }
        return text.toString();
    }

    private static void constructorsOf(Class<?> face) {
        Constructor<?>[] all = face.getDeclaredConstructors();
        CHECK.due("constructors", all.length, 1);
        CHECK.due("modifiers of the constructor", all[0].getModifiers(), Modifier.PUBLIC);
        CHECK.due("parameters of the constructor", all[0].getParameterCount(), 0);
    }

    private static void fieldsOf(Class<?> owner) {
        for (Field field : owner.getDeclaredFields()) {
            if (owner == PipeComputer.class && !Modifier.isPrivate(field.getModifiers())) {
                CHECK.tell(field + " is not private");
            }
            if (Modifier.isStatic(field.getModifiers()) && !Modifier.isFinal(field.getModifiers())) {
                CHECK.tell(field + " is static and not final");
            }
        }
    }
}
