import java.lang.reflect.Constructor;
import java.lang.reflect.Field;
import java.lang.reflect.Method;
import java.lang.reflect.Modifier;
import java.util.Set;
import java.util.TreeSet;

/** The public face: the members of the document, and no other one that is not private. */
public final class FaceTest {
    private static final Set<String> METHODS = new TreeSet<>(Set.of(
            "int room() IllegalStateException",
            "int size(int,int,int) IllegalArgumentException IllegalStateException",
            "void lot(int,int) IllegalArgumentException",
            "int order(long,long)",
            "int best(int) IllegalArgumentException",
            "int place(int,int) IllegalArgumentException",
            "int outline(int,int) IllegalArgumentException",
            "int wall(int,int) IllegalArgumentException",
            "int wish(int,int,int) IllegalArgumentException IllegalStateException",
            "boolean met(int) IllegalArgumentException",
            "int met()",
            "boolean swap(int,int) IllegalArgumentException",
            "boolean improve()",
            "int sign(int) IllegalArgumentException"));

    public static void main(String[] args) {
        Answers answers = new Answers();
        Class<?> type = RoomLayouts.class;
        answers.due("NONE", -1, RoomLayouts.NONE);
        answers.due("the class is public and final", Modifier.PUBLIC | Modifier.FINAL,
                type.getModifiers());
        Set<String> open = new TreeSet<>();
        for (Method method : type.getDeclaredMethods()) {
            if (!Modifier.isPrivate(method.getModifiers())) {
                open.add(written(method));
                answers.due(method.getName() + " is just public", Modifier.PUBLIC,
                        method.getModifiers());
            }
        }
        answers.due("the methods are " + open + ", due are " + METHODS, true, open.equals(METHODS));
        for (Field field : type.getDeclaredFields()) {
            if (field.getName().equals("NONE")) {
                answers.due("NONE is a public constant",
                        Modifier.PUBLIC | Modifier.STATIC | Modifier.FINAL, field.getModifiers());
                answers.due("NONE is an int", "int", field.getType().getName());
            } else {
                answers.due("field " + field.getName() + " is private", true,
                        Modifier.isPrivate(field.getModifiers()));
            }
        }
        Constructor<?>[] made = type.getDeclaredConstructors();
        answers.due("constructors", 1, made.length);
        answers.due("its parameters", 0, made[0].getParameterCount());
        answers.due("it is public", Modifier.PUBLIC, made[0].getModifiers());
        answers.due("it throws nothing", 0, made[0].getExceptionTypes().length);
        for (Class<?> inside : type.getDeclaredClasses()) {
            answers.due(inside.getName() + " is static", true,
                    Modifier.isStatic(inside.getModifiers()));
            answers.due(inside.getName() + " is neither public nor protected", 0,
                    inside.getModifiers() & (Modifier.PUBLIC | Modifier.PROTECTED));
        }
        answers.end();
    }

    private static String written(Method method) {
        StringBuilder text = new StringBuilder();
        text.append(method.getReturnType()).append(' ').append(method.getName()).append('(');
        for (Class<?> parameter : method.getParameterTypes()) {
            text.append(text.charAt(text.length() - 1) == '(' ? "" : ",").append(parameter);
        }
        text.append(')');
        // Those that a call may throw are told in the document's order too.
        for (Class<?> thrown : method.getExceptionTypes()) {
            text.append(' ').append(thrown.getSimpleName());
        }
        return text.toString();
    }
}
