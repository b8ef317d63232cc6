import java.io.IOException;
import java.lang.reflect.Array;
import java.lang.reflect.Field;
import java.lang.reflect.Method;
import java.lang.reflect.Modifier;
import java.nio.file.Files;
import java.nio.file.Path;
import java.util.ArrayList;
import java.util.Arrays;
import java.util.HashSet;
import java.util.List;
import java.util.Set;
import java.util.regex.Pattern;

/** What of LANGUAGE.md can be told from the source and the compiled class, and the room that an object takes. */
public final class LanguageTest {
    private static final Check check = new Check("LanguageTest");
    private static final Path SOURCE = Path.of("src/main/java/SharedSyntax.java");

    public static void main(String[] args) throws IOException, IllegalAccessException {
        List<String> code = new ArrayList<>();
        for (String line : Files.readAllLines(SOURCE)) {
            code.add(line.replaceFirst("//.*|^ */?\\*.*", "").stripTrailing());
        }
        forbiddenWords(String.join("\n", code));
        lengthOfMethods(code);
        objectsAreMadeInConstructors(code);
        List<Class<?>> classes = new ArrayList<>(Arrays.asList(SharedSyntax.class.getDeclaredClasses()));
        classes.add(SharedSyntax.class);
        check.due("at most twelve classes", classes.size() <= 12, true);
        for (Class<?> owner : classes) {
            members(owner);
        }
        room();
        check.end();
    }

    // Rules 1, 2, 4, 6 and 13
    private static void forbiddenWords(String code) {
        String[] words = {
            "package", "import", "synchronized", "assert", "finally", "try", "catch", "throw", "throws", "volatile", "native",
            "protected", "Random", "Thread", "System\\.(?!arraycopy)", "->", "::", "hashCode", "equals", "toString", "Exact",
        };
        for (String word : words) {
            boolean letters = Character.isLetter(word.charAt(0)) && !word.contains("\\");
            Pattern pattern = Pattern.compile(letters ? "\\b" + word + "\\b" : word);
            check.due("no " + word, pattern.matcher(code).find(), false);
        }
    }

    // Rule 11: a method begins with a line that ends in ") {" and ends with a } as far in.
    private static void lengthOfMethods(List<String> code) {
        Pattern head = Pattern.compile("^( {4}| {8})[\\w][\\w<>\\[\\] ]*\\([^;]*\\) \\{$");
        int found = 0;
        for (int i = 0; i < code.size(); i++) {
            if (head.matcher(code.get(i)).matches()) {
                String end = code.get(i).replaceFirst("\\S.*", "") + "}";
                int last = i;
                while (!code.get(last).equals(end)) {
                    last++;
                }
                found++;
                check.due("at most 60 lines: " + code.get(i), last - i + 1 <= 60, true);
            }
        }
        check.due("methods were found", found > 50, true);
    }

    // What a run makes is counted; so no call but the constructor makes anything.
    private static void objectsAreMadeInConstructors(List<String> code) {
        String method = "";
        for (String line : code) {
            if (line.matches("^( {4}| {8})\\w.*\\(.*\\) \\{$")) {
                method = line.trim();
            }
            if (line.matches(".*\\bnew\\b.*")) {
                check.due("made in a constructor: " + line.trim(), method.matches("(public )?[A-Z]\\w*\\(.*"), true);
            }
        }
    }

    // Rules 1, 5 and 11
    private static void members(Class<?> owner) {
        Set<String> face = new HashSet<>();
        for (Method method : SharedSyntax.class.getMethods()) {
            face.add(method.getName());
        }
        for (Method method : owner.getDeclaredMethods()) {
            check.due("at most seven parameters: " + method, method.getParameterCount() <= 7, true);
            boolean hidden = Modifier.isPrivate(method.getModifiers());
            check.due("no name of the face: " + method, hidden && face.contains(method.getName()), false);
        }
        int fields = 0;
        for (Field field : owner.getDeclaredFields()) {
            boolean constant = Modifier.isStatic(field.getModifiers());
            fields += constant ? 0 : 1;
            boolean plain = field.getType() == int.class || field.getType() == String.class;
            check.due("static fields are final and plain: " + field, !constant || plain, true);
        }
        check.due("at most twenty fields: " + owner, fields <= 20, true);
    }

    /** One run of calls may make many objects; some 600,000 objects and 7.3 million fields and elements are all there is. */
    private static void room() throws IllegalAccessException {
        Set<Object> seen = new HashSet<>();
        long elements = weigh(Check.of("a" + "=".repeat(59)), seen);
        check.due("objects and arrays in one: " + seen.size(), seen.size() <= 60, true);
        check.due("fields and elements in one: " + elements, elements <= 6000, true);
    }

    private static long weigh(Object object, Set<Object> seen) throws IllegalAccessException {
        if (object == null || !seen.add(object)) {
            return 0;
        }
        long many = 0;
        if (object.getClass().isArray()) {
            int length = Array.getLength(object);
            for (int i = 0; object instanceof Object[] && i < length; i++) {
                many += weigh(Array.get(object, i), seen);
            }
            return many + length;
        }
        for (Field field : object.getClass().getDeclaredFields()) {
            if (!Modifier.isStatic(field.getModifiers())) {
                field.setAccessible(true);
                many += 1 + (field.getType().isPrimitive() ? 0 : weigh(field.get(object), seen));
            }
        }
        return many;
    }
}
