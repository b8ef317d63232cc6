import java.util.ArrayList;
import java.util.List;
import java.util.Random;
import java.util.function.Consumer;

/** The sentences under "What it is": every character in the tree, the tree of the new text, the versions before. */
public final class WhatItIsTest {
    private static final Check check = new Check("WhatItIsTest");
    private static final String LETTERS = "ab1;;;{}()()+-*<=# \n~Z";
    private static final String[] WORDS = {"if(", "while(", "else ", "a;", "b=1;", "{{{", "(((", "---", "if if ", "}}", "#c\n"};
    private static final int RUNS = 150;
    private static final int EDITS = 8;

    public static void main(String[] args) {
        rightPrograms();
        wrongPrograms();
        for (int seed = 0; seed < RUNS; seed++) {
            treeOfTheNewText(new Random(seed), "seed " + seed);
        }
        for (int edits = 1; edits <= 6; edits++) {
            versionsBefore(edits);
        }
        twoObjects();
        check.end();
    }

    // "every character lies in the tree"
    private static void rightPrograms() {
        String[] texts = {
            "", "a;", " a = b ; # c\n", "if(a<1){b=-a;}else c=(a+2)*3;", "while(a){a=a-1;b=b*a;}#end", "{{{{{{;}}}}}}",
            "------1;", "((((((a))))));", "a=b=c;\n\nd;", "if(a)while(b);else{}", ";".repeat(60), "a+".repeat(29) + "b;",
        };
        for (String text : texts) {
            check.due("right: " + text, Check.of(text).count(2), 0);
            everyCharacter(text);
        }
    }

    // "also where the program is wrong"
    private static void wrongPrograms() {
        String[] texts = {
            "~", ") } else", "a b", "if", "if else while", "{ ) ~ ", "{{{{{{{ if while ;", "(((((((", "-------", "a=;b+*c;",
            "=".repeat(60), "(".repeat(60), "{".repeat(60), "a" + "=".repeat(59), States.TWENTY.repeat(3),
        };
        for (String text : texts) {
            check.due("wrong: " + text, Check.of(text).count(2) > 0, true);
            everyCharacter(text);
        }
    }

    /** The leaves in their order have all the characters, each of them once, and find tells which leaf has it. */
    private static void everyCharacter(String text) {
        int nodes = Check.of(text).count(0);
        int end = 0;
        for (int k = 0; k < nodes; k++) {
            // A new one each time: an object is used for at most 512 calls.
            SharedSyntax x = Check.of(text);
            if (x.node(k, 4) == 0) {
                check.due("leaf " + k + " begins where the one before ends: " + text, x.node(k, 1), end);
                int next = end + x.node(k, 2);
                for (int p = end; p < next; p++) {
                    check.due("place " + p + " lies in leaf " + k + ": " + text, x.find(p), k);
                }
                end = next;
            }
        }
        check.due("the last leaf ends with the text: " + text, end, text.length());
        check.due("the text is as it was put in: " + text, Check.text(Check.of(text)), text);
    }

    // "after an edit the tree is that of the new text, whatever of the old one can be used again"
    private static void treeOfTheNewText(Random random, String told) {
        Consumer<SharedSyntax> run = x -> { };
        String text = "";
        for (int i = 0; i < EDITS; i++) {
            int start = random.nextInt(text.length() + 1);
            int removed = random.nextInt(Math.min(6, text.length() - start + 1));
            String piece = piece(random);
            String put = text.length() - removed + piece.length() > 60 ? "" : piece;
            run = run.andThen(x -> check.due(told + ": edit", Check.put(x, start, removed, put), true));
            text = text.substring(0, start) + put + text.substring(start + removed);
            String changed = text;
            check.due(told + ": " + text, Whole.treeAfter(run), Whole.treeAfter(x -> anew(x, changed)));
        }
        everyCharacter(text);
    }

    private static String piece(Random random) {
        StringBuilder piece = new StringBuilder();
        int many = random.nextInt(4);
        for (int i = 0; i < many; i++) {
            boolean word = random.nextInt(3) == 0;
            piece.append(word ? WORDS[random.nextInt(WORDS.length)] : LETTERS.charAt(random.nextInt(LETTERS.length())));
        }
        return piece.length() > 20 ? piece.substring(0, 20) : piece.toString();
    }

    /** Puts the text together from its end, so that the trees on the way are others. */
    private static void anew(SharedSyntax x, String text) {
        for (int end = text.length(); end > 0; end -= 20) {
            check.due("put in before", Check.put(x, 0, 0, text.substring(Math.max(0, end - 20), end)), true);
        }
    }

    // "and the versions before can be gone back to"
    private static void versionsBefore(int edits) {
        String[] pieces = {"if(a)b;", "else c;", "~", "{", "while", "(d"};
        SharedSyntax x = new SharedSyntax();
        List<String> texts = new ArrayList<>();
        List<String> trees = new ArrayList<>();
        List<String> faults = new ArrayList<>();
        for (int i = 0; i < edits; i++) {
            texts.add(Check.text(x));
            trees.add(Check.tree(x));
            faults.add(Check.faults(x));
            check.due("edit", Check.put(x, x.length(), 0, pieces[i]), true);
        }
        for (int i = edits - 1; i >= Math.max(0, edits - 3); i--) {
            String what = "version " + i + " of " + edits;
            check.due(what, x.undo(), true);
            check.due(what + ": number", x.count(4), i);
            check.due(what + ": text", Check.text(x), texts.get(i));
            check.due(what + ": tree", Check.tree(x), trees.get(i));
            check.due(what + ": faults", Check.faults(x), faults.get(i));
        }
        check.due("no version before the third", x.undo(), false);
    }

    // Each object has a program of its own: what one is told changes nothing in another.
    private static void twoObjects() {
        SharedSyntax x = Check.of("a;");
        SharedSyntax y = Check.of("if(b)~");
        Check.type(x, "xx");
        Check.type(y, "y");
        check.due("edit x", x.edit(2, 0), true);
        check.due("edit y", y.edit(0, 6), true);
        check.due("x", Check.tree(x), "20(24(1:a 6:;) 24(1:xx ?6) 17:)");
        check.due("y", Check.tree(y), "20(24(1:y ?6) 17:)");
        check.due("undo y", y.undo(), true);
        check.due("x", Check.tree(x), "20(24(1:a 6:;) 24(1:xx ?6) 17:)");
        check.due("y", Check.tree(y), "20(22(3:if 9:( 1:b 10:) 25(?6)) 17:~)");
        check.due("versions", x.count(4) + " " + y.count(4), "2 1");
        check.due("kept", x.count(6) + " " + y.count(6), "1 0");
    }
}
