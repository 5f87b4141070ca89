import java.lang.reflect.Constructor;
import java.lang.reflect.Field;
import java.lang.reflect.Method;
import java.lang.reflect.Modifier;
import java.util.Set;
import java.util.TreeSet;

/** The public face: the members of the document, and no other one that is not private. */
public final class FaceTest {
    private static final Set<String> METHODS = new TreeSet<>(Set.of(
            "int room()", "int size(int,int,int)", "void lot(int,int)", "int order(long,long)",
            "int best(int)", "int place(int,int)", "int outline(int,int)", "int wall(int,int)",
            "int wish(int,int,int)", "boolean met(int)", "int met()", "boolean swap(int,int)",
            "boolean improve()", "int sign(int)"));

    public static void main(String[] args) {
        Answers answers = new Answers();
        Class<?> type = RoomLayouts.class;
        answers.due("NONE", -1, RoomLayouts.NONE);
        answers.due("the class is public and final", Modifier.PUBLIC | Modifier.FINAL,
                type.getModifiers());
        Set<String> open = new TreeSet<>();
        for (Method method : type.getDeclaredMethods()) {
            if (!Modifier.isPrivate(method.getModifiers())) {
                open.add(written(method));
                answers.due(method.getName() + " is just public", Modifier.PUBLIC,
                        method.getModifiers());
            }
        }
        answers.due("the methods are " + open + ", due are " + METHODS, true, open.equals(METHODS));
        for (Field field : type.getDeclaredFields()) {
            answers.due("field " + field.getName() + " is private", !field.getName().equals("NONE"),
                    Modifier.isPrivate(field.getModifiers()));
        }
        Constructor<?>[] made = type.getDeclaredConstructors();
        answers.due("constructors", 1, made.length);
        answers.due("its parameters", 0, made[0].getParameterCount());
        answers.due("it is public", Modifier.PUBLIC, made[0].getModifiers());
        for (Class<?> inside : type.getDeclaredClasses()) {
            answers.due(inside.getName() + " is static and not public", true,
                    Modifier.isStatic(inside.getModifiers())
                            && !Modifier.isPublic(inside.getModifiers()));
        }
        answers.end();
    }

    private static String written(Method method) {
        StringBuilder text = new StringBuilder();
        text.append(method.getReturnType()).append(' ').append(method.getName()).append('(');
        for (Class<?> parameter : method.getParameterTypes()) {
            text.append(text.charAt(text.length() - 1) == '(' ? "" : ",").append(parameter);
        }
        return text.append(')').toString();
    }
}
