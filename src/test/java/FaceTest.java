import java.io.IOException;
import java.lang.reflect.Constructor;
import java.lang.reflect.Field;
import java.lang.reflect.Member;
import java.lang.reflect.Method;
import java.lang.reflect.Modifier;
import java.nio.file.Files;
import java.nio.file.Path;
import java.util.ArrayList;
import java.util.Arrays;
import java.util.List;
import java.util.Set;
import java.util.TreeSet;

/** The class has the document's public face and no other member that can be seen from outside. */
public final class FaceTest {
    private static final Check check = new Check("FaceTest");
    private static final Path DOCUMENT = Path.of("../shared/DOC.md");

    public static void main(String[] args) throws IOException {
        asInTheDocument();
        asWrittenDown();
        nothingElse();
        check.end();
    }

    /** The members between the first line of the class in the document and its }, as reflection shows them. */
    private static Set<String> membersInTheDocument() throws IOException {
        List<String> lines = Files.readAllLines(DOCUMENT);
        Set<String> members = new TreeSet<>();
        int at = lines.indexOf("public final class SharedSyntax {") + 1;
        while (at > 0 && !lines.get(at).equals("}")) {
            String member = lines.get(at).trim().replaceFirst("( = .*)?;$", "").replaceAll("(int|char) \\w+([,)])", "$1$2");
            members.add(member.replace(", ", ","));
            at++;
        }
        return members;
    }

    private static void asInTheDocument() throws IOException {
        Set<String> due = membersInTheDocument();
        check.due("members in the document", due.size(), 13);
        Set<String> found = new TreeSet<>();
        for (Member member : visible(SharedSyntax.class)) {
            found.add(member.toString().replace("SharedSyntax.", ""));
        }
        check.due("visible members", String.join("\n", found), String.join("\n", due));
    }

    // The same without the document, as calls that must compile and answer in the types of the face.
    private static void asWrittenDown() {
        final int none = SharedSyntax.NONE;
        check.due("NONE", none, -1);
        SharedSyntax x = new SharedSyntax();
        boolean typed = x.type('a');
        boolean done = x.edit(0, 0);
        boolean equal = x.equal(0, 0);
        boolean back = x.undo();
        int[] numbers = {x.length(), x.letter(0), x.node(0, 0), x.child(0, 0), x.find(0), x.fault(0), x.count(0)};
        check.due("answers", typed + " " + done + " " + equal + " " + back + " " + Arrays.toString(numbers),
            "true true true true [0, 0, 20, 1, 1, -1, 2]");
    }

    private static void nothingElse() {
        Class<?> face = SharedSyntax.class;
        check.due("the class", Modifier.toString(face.getModifiers()), "public final");
        check.due("what it extends", face.getSuperclass().getName(), "java.lang.Object");
        check.due("what it implements", face.getInterfaces().length, 0);
        check.due("no package", face.getPackageName(), "");
        for (Member member : visible(face)) {
            check.due("no more than public: " + member, Modifier.isPublic(member.getModifiers()), true);
        }
        for (Class<?> inside : face.getDeclaredClasses()) {
            check.due(inside.getName(), Modifier.toString(inside.getModifiers()), "private static final");
        }
    }

    private static List<Member> visible(Class<?> face) {
        List<Member> members = new ArrayList<>();
        for (Constructor<?> constructor : face.getDeclaredConstructors()) {
            members.add(constructor);
        }
        for (Method method : face.getDeclaredMethods()) {
            members.add(method);
        }
        for (Field field : face.getDeclaredFields()) {
            members.add(field);
        }
        members.removeIf(member -> Modifier.isPrivate(member.getModifiers()));
        return members;
    }
}
