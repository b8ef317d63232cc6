import java.util.LinkedHashMap;
import java.util.Map;
import java.util.function.Consumer;

/** Runs of calls that bring a new object to the states in which an edge may lie, by their names. */
final class States {
    static final String TWENTY = "if(a){b=1;}else c ;)";
    static final String TYPED_TWENTY = "while(x<9)x=x+1;#end";

    private States() {
    }

    static Map<String, Consumer<SharedSyntax>> all() {
        Map<String, Consumer<SharedSyntax>> states = new LinkedHashMap<>();
        states.put("new", x -> { });
        states.put("empty after an edit", x -> Check.put(x, 0, 0, ""));
        states.put("gone back to the beginning", x -> {
            Check.put(x, 0, 0, "a;");
            x.undo();
        });
        states.put("one character", x -> Check.put(x, 0, 0, "a"));
        states.put("a blank", x -> Check.put(x, 0, 0, " "));
        states.put("wrong program", x -> Check.put(x, 0, 0, " a= ~;) -2{{if("));
        states.put("59 characters", x -> {
            sixty(x);
            x.edit(59, 1);
        });
        states.put("60 characters", States::sixty);
        states.put("three stored", States::fiveEdits);
        states.put("two stored", x -> back(x, 1));
        states.put("none stored", x -> back(x, 3));
        states.put("kept three", x -> {
            Check.put(x, 0, 0, "a;{b;}");
            Check.put(x, 6, 0, "c");
        });
        return states;
    }

    /** The buffers with which they are taken: empty, one character, one less than full, full. */
    static String[] buffers() {
        return new String[] {"", "q", TYPED_TWENTY.substring(0, 19), TYPED_TWENTY};
    }

    private static void sixty(SharedSyntax x) {
        for (int i = 0; i < 3; i++) {
            Check.put(x, 20 * i, 0, TWENTY);
        }
    }

    private static void fiveEdits(SharedSyntax x) {
        for (int i = 0; i < 5; i++) {
            Check.put(x, 2 * i, 0, (char) ('a' + i) + ";");
        }
    }

    private static void back(SharedSyntax x, int times) {
        fiveEdits(x);
        for (int i = 0; i < times; i++) {
            x.undo();
        }
    }
}
