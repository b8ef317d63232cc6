import java.util.Arrays;

/** What the tests share: a count of wrong answers, and short ways to make and to show a text and its tree. */
final class Check {
    private final String name;
    private int asked = 0;
    private int wrong = 0;

    Check(String name) {
        this.name = name;
    }

    void due(String what, long got, long want) {
        due(what, Long.toString(got), Long.toString(want));
    }

    void due(String what, boolean got, boolean want) {
        due(what, Boolean.toString(got), Boolean.toString(want));
    }

    void due(String what, String got, String want) {
        asked++;
        if (!got.equals(want)) {
            wrong++;
            System.out.println(name + ": " + what + "\n  answered " + got + "\n  due is   " + want);
        }
    }

    /** The text has this tree and these faults, both as shown below. */
    void dueTree(String text, String tree, String faults) {
        SharedSyntax x = of(text);
        due("tree of " + text, tree(x), tree);
        due("faults of " + text, faults(x), faults);
        due("number of faults of " + text, x.count(2), faults.isEmpty() ? 0 : faults.split(" ").length);
    }

    void end() {
        System.out.println(name + ": " + asked + " answers, " + wrong + " wrong");
        if (wrong != 0 || asked == 0) {
            System.exit(1);
        }
    }

    /** Numbers that are not 0 .. many - 1: those beside it, the farthest, and some that a narrower type would take for it. */
    static int[] outside(int many) {
        int[] far = {
            -1, -2, -many, -many - 1, many, many + 1, many + (1 << 8), many - (1 << 8), -(1 << 8), 1 << 15, 1 << 16,
            (1 << 16) + many - 1, -(1 << 16), 1 << 24, 1 << 30, -(1 << 30), Integer.MIN_VALUE, Integer.MIN_VALUE + 1,
            Integer.MIN_VALUE + many, Integer.MAX_VALUE - many, Integer.MAX_VALUE - 1, Integer.MAX_VALUE,
        };
        return Arrays.stream(far).filter(k -> k < 0 || k >= many).toArray();
    }

    static void type(SharedSyntax x, String text) {
        for (int i = 0; i < text.length(); i++) {
            if (!x.type(text.charAt(i))) {
                throw new IllegalStateException("not typed: " + text);
            }
        }
    }

    static boolean put(SharedSyntax x, int start, int removed, String text) {
        type(x, text);
        return x.edit(start, removed);
    }

    static SharedSyntax of(String text) {
        SharedSyntax x = new SharedSyntax();
        for (int i = 0; i < text.length(); i += 20) {
            if (!put(x, i, 0, text.substring(i, Math.min(text.length(), i + 20)))) {
                throw new IllegalStateException("not put in: " + text);
            }
        }
        return x;
    }

    static String text(SharedSyntax x) {
        return stretch(x, 0, x.length());
    }

    private static String stretch(SharedSyntax x, int begin, int many) {
        StringBuilder letters = new StringBuilder();
        for (int i = 0; i < many; i++) {
            letters.append((char) x.letter(begin + i));
        }
        return letters.toString();
    }

    /** kind(children) for a node, kind:stretch for a leaf, ?kind for a missing one. */
    static String tree(SharedSyntax x) {
        return tree(x, 0);
    }

    static String tree(SharedSyntax x, int k) {
        int kind = x.node(k, 0);
        if (kind < 20) {
            return x.node(k, 6) == 1 ? "?" + kind : kind + ":" + stretch(x, x.node(k, 1), x.node(k, 2));
        }
        StringBuilder shown = new StringBuilder().append(kind).append('(');
        for (int c = 0; c < x.node(k, 4); c++) {
            shown.append(c == 0 ? "" : " ").append(tree(x, x.child(k, c)));
        }
        return shown.append(')').toString();
    }

    /** place/number of every fault, in their order. */
    static String faults(SharedSyntax x) {
        StringBuilder shown = new StringBuilder();
        for (int k = 0; x.fault(k) != SharedSyntax.NONE; k++) {
            shown.append(k == 0 ? "" : " ").append(x.fault(k) / 4).append('/').append(x.fault(k) % 4);
        }
        return shown.toString();
    }
}
