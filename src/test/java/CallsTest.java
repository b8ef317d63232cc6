import java.util.Random;

/** "An object is used for at most 512 calls after it has been made": every promise holds up to the 512th. */
public final class CallsTest {
    private static final Check check = new Check("CallsTest");
    private static final int CALLS = 512;
    private static final int RUNS = 3000;
    private static final int EDIT = 1;
    private static final int LETTER = 4;
    private static final int NODE = 5;
    private static final int CHILD = 6;
    private static final int FIND = 7;
    private static final int FAULT = 9;
    private static final int COUNT = 10;
    private static final int[] FAR = {
        Integer.MIN_VALUE, Integer.MIN_VALUE + 1, -65536, -256, -2, -1, 60, 61, 256, 511, 512, 65536, 1 << 30,
        Integer.MAX_VALUE - 1, Integer.MAX_VALUE,
    };
    private static final String LETTERS = "abz019;;;;{}{}(())+-*<==## \n~?Z";
    private static final String[] WORDS = {"if(", "while(", "else ", "{{{", "(((", "---", "if if", "a;b;", "\n", "}}", "x=1;"};

    public static void main(String[] args) {
        edits();
        editsAndStepsBack();
        typing();
        refusedCalls();
        everyCallAsTheLast();
        for (int run = 0; run < RUNS; run++) {
            mixed(new Random(run), "run " + run);
        }
        check.end();
    }

    private static void edits() {
        SharedSyntax x = new SharedSyntax();
        for (int i = 1; i < CALLS; i++) {
            check.due("edit " + i, x.edit(0, 0), true);
        }
        check.due("version after 511 edits", x.count(4), CALLS - 1);
        SharedSyntax y = new SharedSyntax();
        for (int i = 1; i <= CALLS - 4; i++) {
            check.due("edit " + i, y.edit(0, 0), true);
        }
        check.due("call 509", y.undo(), true);
        check.due("call 510", y.undo(), true);
        check.due("call 511", y.undo(), true);
        check.due("call 512", y.undo(), false);
    }

    private static void editsAndStepsBack() {
        SharedSyntax x = new SharedSyntax();
        x.type('a');
        x.edit(0, 0);
        for (int i = 2; i < CALLS - 4; i += 2) {
            check.due("edit", x.edit(0, 1), true);
            check.due("undo", x.undo(), true);
        }
        check.due("text", x.letter(0), 'a');
        check.due("stored", x.count(5), 1);
        check.due("version", x.count(4), 1);
        check.due("nodes", x.count(0), 5);
    }

    private static void typing() {
        SharedSyntax x = new SharedSyntax();
        for (int i = 1; i < CALLS; i++) {
            check.due("type " + i, x.type('a'), i <= 20);
        }
        check.due("buffer", x.count(7), 20);
    }

    private static void refusedCalls() {
        SharedSyntax x = new SharedSyntax();
        for (int i = 1; i < CALLS - 1; i++) {
            boolean answer = i % 3 == 0 ? x.edit(1, 0) : i % 3 == 1 ? x.undo() : x.type('\t');
            check.due("refused call " + i, answer, false);
        }
        check.due("version", x.count(4), 0);
        check.due("stored", x.count(5), 0);
    }

    /** After 511 calls on the longest text the last call answers as on an object that has just been made so. */
    private static void everyCallAsTheLast() {
        for (int last = 0; last <= COUNT; last++) {
            Model model = new Model();
            SharedSyntax x = new SharedSyntax();
            for (int i = 0; i < 63; i++) {
                boolean full = i % 21 == 20;
                check.due("put in", full ? x.edit(i / 21 * 20, 0) : x.type("if(a){b=1;}else c ;)".charAt(i % 21)), true);
                check.due("put in", full ? model.edit(i / 21 * 20, 0) : model.type("if(a){b=1;}else c ;)".charAt(i % 21)), true);
            }
            for (int i = 64; i < CALLS; i++) {
                x.count(i % 8);
            }
            check.due("call 512", ask(x, last, 1, 4), askModel(model, last, 1, 4));
        }
    }

    private static void mixed(Random random, String run) {
        SharedSyntax x = new SharedSyntax();
        Model model = new Model();
        StringBuilder told = new StringBuilder(run);
        int typed = 3 + random.nextInt(9);
        for (int i = 0; i < CALLS; i++) {
            int call = random.nextInt(COUNT + 1 + typed);
            if (call > COUNT) {
                i = typePiece(random, x, model, told, i);
                continue;
            }
            int first = argument(random, model, call);
            int second = secondArgument(random, model, call);
            told.append(' ').append(call).append('(').append(first).append(',').append(second).append(')');
            check.due(told.toString(), ask(x, call, first, second), askModel(model, call, first, second));
        }
    }

    /** Types some characters; answers the number of the last call. */
    private static int typePiece(Random random, SharedSyntax x, Model model, StringBuilder told, int call) {
        boolean word = random.nextInt(3) == 0;
        String piece = word ? WORDS[random.nextInt(WORDS.length)] : "" + LETTERS.charAt(random.nextInt(LETTERS.length()));
        int i = 0;
        while (i < piece.length() && call + i < CALLS) {
            check.due(told + " type", x.type(piece.charAt(i)), model.type(piece.charAt(i)));
            i++;
        }
        told.append(" type ").append(piece);
        return call + i - 1;
    }

    private static int argument(Random random, Model model, int call) {
        if (random.nextInt(12) == 0) {
            return FAR[random.nextInt(FAR.length)];
        }
        int most = model.count(0);
        if (call == EDIT || call == LETTER || call == FIND) {
            most = model.length();
        } else if (call == FAULT || call == COUNT) {
            most = call == FAULT ? model.count(2) : 7;
        }
        return random.nextInt(most + 3) - 1;
    }

    private static int secondArgument(Random random, Model model, int call) {
        if (call != NODE && call != CHILD) {
            int same = argument(random, model, call);
            return call == EDIT ? same / 4 : same;
        }
        return random.nextInt(9) == 0 ? FAR[random.nextInt(FAR.length)] : random.nextInt(11) - 1;
    }

    private static String ask(SharedSyntax x, int call, int a, int b) {
        switch (call) {
            case 0: return "" + x.type((char) a);
            case EDIT: return "" + x.edit(a, b);
            case 2: return "" + x.undo();
            case 3: return "" + x.length();
            case LETTER: return "" + x.letter(a);
            case NODE: return "" + x.node(a, b);
            case CHILD: return "" + x.child(a, b);
            case FIND: return "" + x.find(a);
            case 8: return "" + x.equal(a, b);
            case FAULT: return "" + x.fault(a);
            default: return "" + x.count(a);
        }
    }

    private static String askModel(Model x, int call, int a, int b) {
        switch (call) {
            case 0: return "" + x.type((char) a);
            case EDIT: return "" + x.edit(a, b);
            case 2: return "" + x.undo();
            case 3: return "" + x.length();
            case LETTER: return "" + x.letter(a);
            case NODE: return "" + x.node(a, b);
            case CHILD: return "" + x.child(a, b);
            case FIND: return "" + x.find(a);
            case 8: return "" + x.equal(a, b);
            case FAULT: return "" + x.fault(a);
            default: return "" + x.count(a);
        }
    }
}
