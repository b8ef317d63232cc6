/** Promises 1 to 6, and of promise 12 the version, the stored texts and the buffer. */
public final class EditingTest {
    private static final Check check = new Check("EditingTest");

    public static void main(String[] args) {
        newObject();
        typing();
        editing();
        refusedEdits();
        longestText();
        undoing();
        threeAreStored();
        letters();
        check.end();
    }

    private static void state(String what, SharedSyntax x, String text, int version, int stored, int buffer) {
        check.due(what + ": text", Check.text(x), text);
        check.due(what + ": length", x.length(), text.length());
        check.due(what + ": version", x.count(4), version);
        check.due(what + ": stored", x.count(5), stored);
        check.due(what + ": buffer", x.count(7), buffer);
    }

    private static void newObject() {
        SharedSyntax x = new SharedSyntax();
        state("new", x, "", 0, 0, 0);
        check.due("new: tree", Check.tree(x), "20(17:)");
        check.due("new: kept", x.count(6), 0);
        check.due("new: undo", x.undo(), false);
        state("new, after undo", x, "", 0, 0, 0);
        SharedSyntax other = new SharedSyntax();
        Check.put(other, 0, 0, "a;");
        state("another object has a text of its own", x, "", 0, 0, 0);
    }

    private static void typing() {
        for (int c = 0; c <= 0xffff; c++) {
            SharedSyntax x = c % 64 == 0 || c < 256 ? new SharedSyntax() : null;
            if (x != null) {
                boolean allowed = c == 10 || (c >= 32 && c <= 126);
                check.due("type " + c, x.type((char) c), allowed);
                check.due("buffer after type " + c, x.count(7), allowed ? 1 : 0);
            }
        }
        SharedSyntax x = new SharedSyntax();
        Check.type(x, "abcdefghijklmnopqrst");
        check.due("the 21st", x.type('u'), false);
        check.due("20 are there", x.count(7), 20);
        check.due("length while typing", x.length(), 0);
        check.due("edit", x.edit(0, 0), true);
        state("after 20", x, "abcdefghijklmnopqrst", 1, 1, 0);
    }

    private static void editing() {
        SharedSyntax x = Check.of("abcdef");
        check.due("put in", Check.put(x, 2, 0, "XY"), true);
        state("put in", x, "abXYcdef", 2, 2, 0);
        check.due("replace", Check.put(x, 2, 3, "z"), true);
        state("replace", x, "abzdef", 3, 3, 0);
        check.due("take out", x.edit(0, 6), true);
        state("take out", x, "", 4, 3, 0);
        check.due("nothing", x.edit(0, 0), true);
        state("nothing", x, "", 5, 3, 0);
        check.due("newline", Check.put(x, 0, 0, "a\nb"), true);
        state("newline", x, "a\nb", 6, 3, 0);
        check.due("at the end", Check.put(x, 3, 0, "c"), true);
        state("at the end", x, "a\nbc", 7, 3, 0);
    }

    private static void refusedEdits() {
        int[][] wrong = {
            {-1, 0}, {0, -1}, {-1, 1}, {4, 0}, {3, 1}, {0, 4}, {4, -1}, {-1, -1},
            {Integer.MAX_VALUE, 1}, {1, Integer.MAX_VALUE}, {Integer.MAX_VALUE, Integer.MAX_VALUE},
            {Integer.MIN_VALUE, Integer.MIN_VALUE}, {Integer.MIN_VALUE, 0}, {0, Integer.MIN_VALUE},
            {Integer.MIN_VALUE, Integer.MAX_VALUE}, {3, Integer.MAX_VALUE - 2},
        };
        for (int[] pair : wrong) {
            SharedSyntax x = Check.of("ab;");
            x.edit(3, 0);
            String what = "edit(" + pair[0] + ", " + pair[1] + ")";
            check.due(what, Check.put(x, pair[0], pair[1], "xyz"), false);
            state(what, x, "ab;", 2, 2, 0);
            check.due(what + ": tree", Check.tree(x), "20(24(1:ab 6:;) 17:)");
            check.due(what + ": kept stays", x.count(6), 1);
        }
    }

    private static void longestText() {
        String twenty = "a;b;c;d;e;f;g;h;i;j;";
        SharedSyntax x = Check.of(twenty + twenty + twenty);
        state("60", x, twenty + twenty + twenty, 3, 3, 0);
        check.due("61", Check.put(x, 30, 0, "q"), false);
        state("61", x, twenty + twenty + twenty, 3, 3, 0);
        check.due("2 for 1", Check.put(x, 59, 1, "qq"), false);
        check.due("1 for 1", Check.put(x, 59, 1, "q"), true);
        check.due("20 for 20", Check.put(x, 40, 20, twenty), true);
        state("20 for 20", x, twenty + twenty + twenty, 5, 3, 0);
    }

    private static void undoing() {
        SharedSyntax x = Check.of("a;");
        Check.put(x, 2, 0, "b");
        Check.type(x, "xy");
        check.due("undo", x.undo(), true);
        state("undo", x, "a;", 1, 1, 2);
        check.due("undo: tree", Check.tree(x), "20(24(1:a 6:;) 17:)");
        check.due("undo: no fault", x.count(2), 0);
        check.due("edit with the buffer that stayed", x.edit(0, 1), true);
        state("edit behind undo", x, "xy;", 2, 2, 0);
        check.due("undo", x.undo(), true);
        check.due("undo", x.undo(), true);
        Check.type(x, "q");
        check.due("undo too often", x.undo(), false);
        state("undo too often", x, "", 0, 0, 1);
        check.due("undo too often: tree", Check.tree(x), "20(17:)");
    }

    private static void threeAreStored() {
        SharedSyntax x = new SharedSyntax();
        for (int i = 0; i < 5; i++) {
            Check.put(x, i, 0, "" + (char) ('a' + i));
            check.due("stored", x.count(5), Math.min(3, i + 1));
        }
        x.undo();
        state("first", x, "abcd", 4, 2, 0);
        x.undo();
        Check.put(x, 3, 0, "z");
        state("edit between", x, "abcz", 4, 2, 0);
        x.undo();
        state("second", x, "abc", 3, 1, 0);
        x.undo();
        state("third", x, "ab", 2, 0, 0);
        check.due("no fourth", x.undo(), false);
        state("no fourth", x, "ab", 2, 0, 0);
    }

    private static void letters() {
        SharedSyntax x = Check.of("a~\n ");
        int[] due = {97, 126, 10, 32};
        for (int p = 0; p < 4; p++) {
            check.due("letter " + p, x.letter(p), due[p]);
        }
        int[] none = {-1, 4, 5, 60, 61, Integer.MAX_VALUE, Integer.MIN_VALUE};
        for (int p : none) {
            check.due("letter " + p, x.letter(p), 0);
        }
        x.edit(4, 0);
        x.edit(1, 3);
        for (int p = 1; p < 4; p++) {
            check.due("letter that is gone", x.letter(p), 0);
        }
        x.undo();
        check.due("letter that is there again", x.letter(1), 126);
        Check.put(x, 4, 0, "abc");
        x.undo();
        check.due("letter of the text that was gone back from", x.letter(4), 0);
    }
}
