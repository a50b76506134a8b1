import java.lang.reflect.Constructor;
import java.lang.reflect.Field;
import java.lang.reflect.Member;
import java.lang.reflect.Method;
import java.lang.reflect.Modifier;
import java.util.Arrays;
import java.util.Set;
import java.util.TreeSet;

/** The public face, as the document and rule 1 of the language tell it. */
public final class FaceTest {
    private static final Check CHECK = new Check("FaceTest");

    private static final String[] FACE = {
        "int feed(int, int, int, int, int) throws IllegalStateException",
        "int trim(int) throws IllegalArgumentException",
        "int consult()",
        "int add()",
        "int drop(int) throws IndexOutOfBoundsException",
        "int errorAt()",
        "int count(int) throws IndexOutOfBoundsException",
        "int clause(int, int) throws IndexOutOfBoundsException",
        "int ask()",
        "int run(int) throws IllegalArgumentException, IllegalStateException",
        "int status()",
        "int write(int) throws IndexOutOfBoundsException, IllegalStateException",
        "int writeGoal() throws IllegalStateException",
        "int byteAt(int) throws IndexOutOfBoundsException",
        "int number(int) throws IndexOutOfBoundsException, IllegalStateException",
        "boolean isSame(int, int) throws IndexOutOfBoundsException",
        "double stepsEach()",
        "long digest()",
    };

    public static void main(String[] args) {
        Class<?> type = HornBench.class;
        CHECK.isTrue("public and final", Modifier.isPublic(type.getModifiers())
            && Modifier.isFinal(type.getModifiers()));
        Set<String> found = new TreeSet<>();
        Set<String> names = new TreeSet<>();
        for (Method method : type.getDeclaredMethods()) {
            if (Modifier.isPublic(method.getModifiers())) {
                found.add(told(method));
                names.add(method.getName());
            } else {
                CHECK.isTrue(method.getName() + " is private", isPrivate(method));
            }
        }
        CHECK.same("face", String.join("; ", found), String.join("; ", new TreeSet<>(Arrays.asList(FACE))));
        for (Field field : type.getDeclaredFields()) {
            CHECK.isTrue(field.getName() + " is private", isPrivate(field));
        }
        Constructor<?>[] constructors = type.getDeclaredConstructors();
        CHECK.same("constructors", constructors.length, 1);
        CHECK.same("parameters of the constructor", constructors[0].getParameterCount(), 0);
        CHECK.isTrue("public constructor", Modifier.isPublic(constructors[0].getModifiers()));
        for (Class<?> inside : type.getDeclaredClasses()) {
            CHECK.isTrue(inside.getName() + " is static", Modifier.isStatic(inside.getModifiers()));
            for (Method method : inside.getDeclaredMethods()) {
                CHECK.isTrue(method.getName() + " bears no name of the face", !names.contains(method.getName()));
            }
        }
        for (Method method : type.getDeclaredMethods()) {
            CHECK.isTrue(method.getName() + " is public, or bears no name of the face",
                !isPrivate(method) || !names.contains(method.getName()));
        }
        CHECK.end();
    }

    private static boolean isPrivate(Member member) {
        return Modifier.isPrivate(member.getModifiers()) || member.isSynthetic();
    }

    private static String told(Method method) {
        String text = method.getReturnType().getSimpleName() + " " + method.getName()
            + names(method.getParameterTypes(), "(", ")");
        Class<?>[] thrown = method.getExceptionTypes();
        return thrown.length == 0 ? text : text + names(thrown, " throws ", "");
    }

    private static String names(Class<?>[] types, String before, String behind) {
        StringBuilder text = new StringBuilder(before);
        for (int k = 0; k < types.length; k++) {
            text.append(k == 0 ? "" : ", ").append(types[k].getSimpleName());
        }
        return text.append(behind).toString();
    }
}
