import java.util.Random;

/**
 * The program held against the model: every short text of tokens, and long runs of calls from fixed seeds. Here an
 * object is asked more than 512 times, which the document leaves free: the program counts no calls, so that nothing
 * is different then; CallsTest keeps to the limit.
 */
public final class ModelTest {
    private static final Check check = new Check("ModelTest");
    private static final String[] PIECES = {
        "a", "b", "x", "1", "20", "if", "else", "while", ";", "{", "}", "(", ")", "+", "-", "*", "<", "=",
        " ", "\n", "#", "#c\n", "?", "Z", "if(", "while(", "a;", "b=1;", "{{{", "(((", "---", "if if ", "}}",
    };
    private static final int TOKENS = 20;
    private static final int RUNS = 1200;
    private static final int CALLS = 510;

    public static void main(String[] args) {
        shortTexts();
        for (int run = 0; run < RUNS; run++) {
            longRun(run);
        }
        check.end();
    }

    private static void shortTexts() {
        for (int i = 0; i < TOKENS * TOKENS * TOKENS * TOKENS; i++) {
            StringBuilder text = new StringBuilder();
            for (int rest = i; rest > 0; rest /= TOKENS) {
                text.append(PIECES[rest % TOKENS]);
            }
            SharedSyntax x = new SharedSyntax();
            Model model = new Model();
            put(x, model, text.toString(), 0, 0);
            if (i % 23 == 0) {
                compareAll("short text " + text, x, model);
            } else {
                compareTree("short text " + text, x, model);
            }
        }
    }

    private static void put(SharedSyntax x, Model model, String text, int start, int removed) {
        for (int i = 0; i < text.length(); i++) {
            check.due("type", x.type(text.charAt(i)), model.type(text.charAt(i)));
        }
        check.due("edit", x.edit(start, removed), model.edit(start, removed));
    }

    private static void longRun(int seed) {
        Random random = new Random(seed);
        SharedSyntax x = new SharedSyntax();
        Model model = new Model();
        StringBuilder told = new StringBuilder("seed " + seed + ":");
        int calls = 0;
        while (calls < CALLS / 4) {
            calls += change(random, x, model, told);
            compareTree(told.toString(), x, model);
            if (random.nextInt(8) == 0) {
                compareAll(told.toString(), x, model);
            }
        }
        compareAll(told.toString(), x, model);
    }

    private static int change(Random random, SharedSyntax x, Model model, StringBuilder told) {
        if (random.nextInt(6) == 0) {
            told.append(" undo");
            check.due(told.toString(), x.undo(), model.undo());
            return 1;
        }
        StringBuilder typed = new StringBuilder();
        int pieces = random.nextInt(random.nextInt(4) == 0 ? 12 : 4);
        for (int i = 0; i < pieces; i++) {
            typed.append(random.nextInt(60) == 0 ? "" + (char) random.nextInt(300) : PIECES[random.nextInt(PIECES.length)]);
        }
        told.append(" type ").append(typed);
        for (int i = 0; i < typed.length(); i++) {
            check.due(told.toString(), x.type(typed.charAt(i)), model.type(typed.charAt(i)));
        }
        int start = random.nextInt(model.length() + 1);
        int removed = random.nextInt(3) != 0 ? 0 : random.nextInt(Math.min(8, model.length() - start + 1));
        if (random.nextInt(20) == 0) {
            start += random.nextInt(9) - 4;
            removed += random.nextInt(9) - 4;
        }
        told.append(" edit(").append(start).append(", ").append(removed).append(')');
        check.due(told.toString(), x.edit(start, removed), model.edit(start, removed));
        return typed.length() + 1;
    }

    private static void compareTree(String told, SharedSyntax x, Model model) {
        StringBuilder got = new StringBuilder();
        StringBuilder want = new StringBuilder();
        for (int what = -1; what <= 8; what++) {
            got.append(x.count(what)).append(' ');
            want.append(model.count(what)).append(' ');
        }
        for (int k = 0; k < model.count(0); k++) {
            got.append(x.node(k, 0)).append('/').append(x.node(k, 8)).append(' ');
            want.append(model.node(k, 0)).append('/').append(model.node(k, 8)).append(' ');
        }
        for (int k = 0; k <= model.count(2); k++) {
            got.append(x.fault(k)).append(' ');
            want.append(model.fault(k)).append(' ');
        }
        check.due(told, got.toString(), want.toString());
    }

    private static void compareAll(String told, SharedSyntax x, Model model) {
        StringBuilder got = new StringBuilder();
        StringBuilder want = new StringBuilder();
        got.append(x.length()).append(' ');
        want.append(model.length()).append(' ');
        for (int p = -2; p <= model.length() + 2; p++) {
            got.append(x.letter(p)).append('/').append(x.find(p)).append(' ');
            want.append(model.letter(p)).append('/').append(model.find(p)).append(' ');
        }
        int nodes = model.count(0);
        for (int k = -2; k <= nodes + 1; k++) {
            for (int i = -2; i <= 10; i++) {
                got.append(x.node(k, i)).append('/').append(x.child(k, i)).append(' ');
                want.append(model.node(k, i)).append('/').append(model.child(k, i)).append(' ');
            }
        }
        for (int k = -1; k <= nodes; k++) {
            for (int j = -1; j <= nodes; j++) {
                got.append(x.equal(k, j) ? 1 : 0);
                want.append(model.equal(k, j) ? 1 : 0);
            }
        }
        check.due(told, got.toString(), want.toString());
    }
}
