/** Of promise 12: the statements that were kept in the latest edit. */
public final class KeptTest {
    private static final Check check = new Check("KeptTest");

    public static void main(String[] args) {
        due("a;b;c;", 2, 2, "xx;", 2);
        due("a;b;c;", 0, 0, "", 3);
        due("a;b;c;", 6, 0, "", 3);
        due("a;b;c;", 6, 0, "d;", 3);
        due("a;b;c;", 0, 2, "", 2);
        due("a;b;c;", 0, 6, "", 0);
        due("a;b;c;", 0, 6, "a;b;c;", 0);
        due("a;", 1, 1, ";", 0);
        due("a;", 2, 0, " ", 1);
        due("a", 1, 0, ";", 0);
        due("a;b;", 2, 0, " ", 1);
        due("a;b;", 2, 0, "#", 1);
        due("{a;b;}", 2, 0, "a", 1);
        due("{a;b;}c;", 7, 0, "d", 3);
        due("a;a;", 2, 2, "a;", 1);
        due("a;a;", 0, 2, "", 1);
        due("if(a)", 5, 0, "", 2);
        due("if(a)", 3, 1, "bc", 1);
        due("if(a)b;", 7, 0, "else", 1);
        due("(((((((1;", 6, 0, "-", 1);
        due("a;", 0, 0, "{", 1);
        due("{a;", 0, 1, "", 1);
        beginsInsideWhatWasPutIn();
        staysWithoutEdit();
        check.end();
    }

    private static void due(String text, int start, int removed, String put, int kept) {
        SharedSyntax x = Check.of(text);
        String what = "kept of " + text + " by edit(" + start + ", " + removed + ") with " + put;
        check.due(what, Check.put(x, start, removed, put), true);
        check.due(what, x.count(6), kept);
    }

    private static void beginsInsideWhatWasPutIn() {
        SharedSyntax x = Check.of("a;b;");
        Check.put(x, 0, 0, "a;");
        check.due("text", Check.text(x), "a;a;b;");
        check.due("only those that were moved are kept", x.count(6), 2);
    }

    private static void staysWithoutEdit() {
        SharedSyntax x = Check.of("a;b;c;");
        Check.put(x, 6, 0, "d;");
        check.due("kept", x.count(6), 3);
        x.undo();
        check.due("after undo", x.count(6), 3);
        Check.put(x, 7, 0, "e;");
        check.due("after a refused edit", x.count(6), 3);
        Check.put(x, 0, 1, "q");
        check.due("after the next one", x.count(6), 2);
        x.undo();
        x.undo();
        check.due("after going back to the beginning", x.count(6), 2);
    }
}
