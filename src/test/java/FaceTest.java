import java.lang.reflect.Constructor;
import java.lang.reflect.Field;
import java.lang.reflect.Method;
import java.lang.reflect.Modifier;
import java.util.Arrays;
import java.util.Set;
import java.util.TreeSet;

/** The class has the document's public face and no other member that can be seen from outside. */
public final class FaceTest {
    private static final Check check = new Check("FaceTest");

    public static void main(String[] args) {
        Class<?> face = SharedSyntax.class;
        check.due("the class", Modifier.toString(face.getModifiers()), "public final");
        check.due("NONE", SharedSyntax.NONE, -1);
        check.due("visible members", visible(face), String.join("\n", new TreeSet<>(Arrays.asList(
            "public SharedSyntax()",
            "public boolean SharedSyntax.edit(int,int)",
            "public boolean SharedSyntax.equal(int,int)",
            "public boolean SharedSyntax.type(char)",
            "public boolean SharedSyntax.undo()",
            "public int SharedSyntax.child(int,int)",
            "public int SharedSyntax.count(int)",
            "public int SharedSyntax.fault(int)",
            "public int SharedSyntax.find(int)",
            "public int SharedSyntax.length()",
            "public int SharedSyntax.letter(int)",
            "public int SharedSyntax.node(int,int)",
            "public static final int SharedSyntax.NONE"))));
        staticFieldsAreFinal(face);
        for (Class<?> inside : face.getDeclaredClasses()) {
            check.due(inside.getName(), Modifier.toString(inside.getModifiers()), "private static final");
            staticFieldsAreFinal(inside);
        }
        check.end();
    }

    private static String visible(Class<?> face) {
        Set<String> members = new TreeSet<>();
        for (Constructor<?> constructor : face.getDeclaredConstructors()) {
            members.add(constructor.toString());
        }
        for (Method method : face.getDeclaredMethods()) {
            if (!Modifier.isPrivate(method.getModifiers())) {
                members.add(method.toString());
            }
        }
        for (Field field : face.getDeclaredFields()) {
            if (!Modifier.isPrivate(field.getModifiers())) {
                members.add(field.toString());
            }
        }
        return String.join("\n", members);
    }

    private static void staticFieldsAreFinal(Class<?> owner) {
        for (Field field : owner.getDeclaredFields()) {
            if (Modifier.isStatic(field.getModifiers())) {
                check.due(field.toString(), Modifier.isFinal(field.getModifiers()), true);
            }
        }
    }
}
