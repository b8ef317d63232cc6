/** The longest texts: as many nodes and faults, and as deep a tree, as 60 characters can bring. */
public final class LimitsTest {
    private static final Check check = new Check("LimitsTest");
    private static final int[] EXTREMES = {
        Integer.MIN_VALUE, Integer.MIN_VALUE + 1, -2, -1, 0, 1, 59, 60, 61, 179, 180, 361, 362, 363,
        Integer.MAX_VALUE - 1, Integer.MAX_VALUE,
    };

    public static void main(String[] args) {
        String[] repeated = {
            "(", "-", "{", "}", ")", ";", "a;", "a1", "if", "if ", "if+", "if(", "while", "while ", "else", "if else ",
            "-(", "(-", "(=", "if(a)b;else ", "{(", "((((((", "((((((-", "#", "#\n", " ", "~", "a", "9", "=", "+", "*",
        };
        String[] first = {"", "a", "(", "if", "{{{{{{", "------", "{{{{{{((((((", "if if if if if if "};
        for (String piece : repeated) {
            for (String before : first) {
                compare(sixty(before, piece));
            }
        }
        mostNodes();
        deepestTree();
        check.end();
    }

    private static String sixty(String before, String piece) {
        StringBuilder text = new StringBuilder(before);
        while (text.length() < 60) {
            text.append(piece);
        }
        return text.substring(0, 60);
    }

    private static void compare(String text) {
        SharedSyntax x = Check.of(text);
        Model model = new Model();
        for (int i = 0; i < 60; i += 20) {
            for (int p = i; p < i + 20; p++) {
                model.type(text.charAt(p));
            }
            model.edit(i, 0);
        }
        for (int what : EXTREMES) {
            check.due("count(" + what + ") of " + text, x.count(what), model.count(what));
            check.due("fault(" + what + ") of " + text, x.fault(what), model.fault(what));
            check.due("letter(" + what + ") of " + text, x.letter(what), model.letter(what));
            check.due("find(" + what + ") of " + text, x.find(what), model.find(what));
            for (int other : EXTREMES) {
                String pair = "(" + what + ", " + other + ") of " + text;
                check.due("node" + pair, x.node(what, other), model.node(what, other));
                check.due("child" + pair, x.child(what, other), model.child(what, other));
                check.due("equal" + pair, x.equal(what, other), model.equal(what, other));
            }
        }
        for (int what = 0; what < 8; what++) {
            check.due("count(" + what + ") of " + text, x.count(what), model.count(what));
        }
    }

    private static void mostNodes() {
        SharedSyntax x = Check.of(sixty("", "("));
        check.due("nodes of 60 (", x.count(0), 2 + 10 * 21);
        check.due("faults of 60 (", x.count(2), 10 * 8);
    }

    private static void deepestTree() {
        SharedSyntax x = Check.of(sixty("a", "="));
        check.due("nodes", x.count(0), 2 + 2 + 59 * 3 + 1);
        int depth = 0;
        for (int k = x.find(59); x.node(k, 5) != SharedSyntax.NONE; k = x.node(k, 5)) {
            depth++;
        }
        check.due("depth of the last sign", depth, 61);
        check.due("equal", x.equal(1, 1), true);
    }
}
