import java.util.Map;
import java.util.function.Consumer;
import java.util.function.Predicate;

/** A refused call changes nothing but what the document says, in every state, and neither does a question. */
public final class RefusedTest {
    private static final Check check = new Check("RefusedTest");
    private static final int MIN = Integer.MIN_VALUE;
    private static final int MAX = Integer.MAX_VALUE;

    public static void main(String[] args) {
        for (Map.Entry<String, Consumer<SharedSyntax>> state : States.all().entrySet()) {
            for (String buffer : States.buffers()) {
                String name = state.getKey() + " with " + buffer.length() + " in the buffer";
                Consumer<SharedSyntax> run = state.getValue().andThen(x -> Check.type(x, buffer));
                refusedCharacters(name, run);
                typingWhenFull(name, run, buffer);
                goingBackWhenNoneIsStored(name, run);
                refusedEdits(name, state.getValue(), buffer);
                questions(name, run);
            }
        }
        check.end();
    }

    /** The last call of the run is refused, and the object is then as after the other run. */
    private static void refused(String what, Consumer<SharedSyntax> run, Predicate<SharedSyntax> call, String due) {
        SharedSyntax x = new SharedSyntax();
        run.accept(x);
        check.due(what, call.test(x), false);
        check.due(what + " changes nothing more", Whole.after(run.andThen(call::test)), due);
    }

    // 2: "false, changing nothing, when it is none of those that are said"
    private static void refusedCharacters(String name, Consumer<SharedSyntax> run) {
        String before = Whole.after(run);
        char[] wrong = {0, 9, 11, 13, 31, 127, 128, 160, 255, 256 + 'a', 0x8000 + 'a', 0xffff};
        for (char c : wrong) {
            refused(name + ": type " + (int) c, run, x -> x.type(c), before);
        }
    }

    // 2: "false, changing nothing, when .. 20 are there"
    private static void typingWhenFull(String name, Consumer<SharedSyntax> run, String buffer) {
        if (buffer.length() < 20) {
            return;
        }
        String before = Whole.after(run);
        char[] right = {10, 32, 'a', '#', 126};
        for (char c : right) {
            refused(name + ": type " + (int) c, run, x -> x.type(c), before);
        }
    }

    // 4: "False, changing nothing, when none is stored."
    private static void goingBackWhenNoneIsStored(String name, Consumer<SharedSyntax> run) {
        Consumer<SharedSyntax> back = run.andThen(x -> {
            x.undo();
            x.undo();
            x.undo();
        });
        refused(name + ": undo", back, SharedSyntax::undo, Whole.after(back));
        refused(name + ": undo and undo", back.andThen(SharedSyntax::undo), SharedSyntax::undo, Whole.after(back));
    }

    // 3: "the buffer is empty afterwards. False, changing nothing but that, when .."
    private static void refusedEdits(String name, Consumer<SharedSyntax> state, String buffer) {
        String emptied = Whole.after(state);
        Consumer<SharedSyntax> run = state.andThen(x -> Check.type(x, buffer));
        SharedSyntax made = new SharedSyntax();
        state.accept(made);
        int length = made.length();
        int[][] wrong = {
            {-1, 0}, {0, -1}, {-1, -1}, {-1, 1}, {1, -1}, {length, -1}, {-1, length + 1},
            {0, length + 1}, {length, 1}, {length + 1, 0}, {length + 1, -1}, {length / 2, length - length / 2 + 1},
            {MIN, 0}, {0, MIN}, {MIN, MIN}, {MAX, 0}, {0, MAX}, {MAX, MAX}, {MIN, MAX}, {MAX, MIN},
            {1, MAX}, {MAX, 1}, {MAX, MAX - 1}, {MIN + length, MIN}, {MAX - length, length + 1}, {length + 1, MAX - length},
        };
        for (int[] pair : wrong) {
            refused(name + ": edit(" + pair[0] + ", " + pair[1] + ")", run, x -> x.edit(pair[0], pair[1]), emptied);
        }
        if (length + buffer.length() > 60) {
            refused(name + ": edit at 0 to over 60", run, x -> x.edit(0, 0), emptied);
            refused(name + ": edit at the end to over 60", run, x -> x.edit(length, 0), emptied);
            int removed = length + buffer.length() - 61;
            refused(name + ": edit to 61", run, x -> x.edit(length - removed, removed), emptied);
        }
    }

    // Nothing is promised to change by a question, whatever it asks for.
    private static void questions(String name, Consumer<SharedSyntax> run) {
        int[] asked = {MIN, -1, 0, 1, 2, 3, 60, 61, MAX};
        Consumer<SharedSyntax> questions = x -> {
            for (int a : asked) {
                x.length();
                x.letter(a);
                x.find(a);
                x.fault(a);
                x.count(a);
                x.node(a, 3);
                x.node(0, a);
                x.child(a, 0);
                x.child(0, a);
                x.equal(a, 0);
                x.equal(1, a);
            }
        };
        check.due(name + ": questions", Whole.after(run.andThen(questions)), Whole.after(run));
    }
}
