/** Promises 7 to 10, and of promise 12 the counts of nodes, leaves and different nodes. */
public final class NodeTest {
    private static final Check check = new Check("NodeTest");

    public static void main(String[] args) {
        everyAnswer();
        missingFirstLeaf();
        wrongArguments();
        finding();
        equalLeaves();
        equalLeavesOfOtherLengths();
        equalNodes();
        differentNodes();
        counts();
        check.end();
    }

    private static String row(SharedSyntax x, int k) {
        StringBuilder row = new StringBuilder();
        for (int what = 0; what <= 8; what++) {
            row.append(what == 0 ? "" : " ").append(x.node(k, what));
        }
        return row.toString();
    }

    private static void everyAnswer() {
        SharedSyntax x = Check.of(" a= ~;) -2");
        check.due("tree", Check.tree(x), "20(24(26(1: a 15:= ?1) ?6) 25(6: ~;) 24(27(12:) - 2:2) ?6) 17:)");
        String[] due = {
            "20 0 10 1 4 -1 0 5 15",
            "24 0 3 1 2 0 0 2 6",
            "26 0 3 1 3 1 0 1 4",
            "1 0 2 1 0 2 0 0 1",
            "15 2 1 2 0 2 0 0 1",
            "1 3 0 3 0 2 1 1 1",
            "6 3 0 3 0 1 1 1 1",
            "25 3 3 5 1 0 0 1 2",
            "6 3 3 5 0 7 0 1 1",
            "24 6 4 8 2 0 0 2 5",
            "27 6 4 8 2 9 0 1 3",
            "12 6 3 8 0 10 0 1 1",
            "2 9 1 9 0 10 0 0 1",
            "6 10 0 10 0 9 1 1 1",
            "17 10 0 10 0 0 0 0 1",
        };
        check.due("nodes", x.count(0), due.length);
        for (int k = 0; k < due.length; k++) {
            check.due("node " + k, row(x, k), due[k]);
        }
        int[] children = {1, 7, 9, 14};
        for (int c = 0; c < 4; c++) {
            check.due("child(0, " + c + ")", x.child(0, c), children[c]);
        }
        check.due("child(2, 2)", x.child(2, 2), 5);
        check.due("child(9, 1)", x.child(9, 1), 13);
    }

    private static void missingFirstLeaf() {
        SharedSyntax x = Check.of("if ( * b);");
        check.due("tree", Check.tree(x), "20(22(3:if 9: ( 26(?1 13: * 1: b) 10:) 25(6:;)) 17:)");
        check.due("26", row(x, 4), "26 4 4 4 3 1 0 1 4");
        SharedSyntax end = Check.of("; # c\n )");
        check.due("END with blanks and a skipped token", row(end, 3), "17 1 7 8 0 0 0 1 1");
        SharedSyntax part = Check.of("if(a)  ");
        check.due("EMPTY without characters", row(part, 6), "25 5 0 5 1 1 0 1 2");
    }

    private static void wrongArguments() {
        SharedSyntax x = Check.of("a=b;");
        int[] noNode = {-1, 8, 9, 400, Integer.MAX_VALUE, Integer.MIN_VALUE};
        for (int k : noNode) {
            for (int what = -1; what <= 9; what++) {
                check.due("node(" + k + ", " + what + ")", x.node(k, what), SharedSyntax.NONE);
            }
            check.due("child(" + k + ", 0)", x.child(k, 0), SharedSyntax.NONE);
            check.due("equal(" + k + ", 0)", x.equal(k, 0), false);
            check.due("equal(0, " + k + ")", x.equal(0, k), false);
            check.due("equal(" + k + ", " + k + ")", x.equal(k, k), false);
        }
        int[] noWhat = {-1, 9, 10, Integer.MAX_VALUE, Integer.MIN_VALUE};
        for (int what : noWhat) {
            check.due("node(0, " + what + ")", x.node(0, what), SharedSyntax.NONE);
        }
        int[] noChild = {-1, 2, 3, 8, Integer.MAX_VALUE, Integer.MIN_VALUE};
        for (int c : noChild) {
            check.due("child(0, " + c + ")", x.child(0, c), SharedSyntax.NONE);
        }
        check.due("child of a leaf", x.child(3, 0), SharedSyntax.NONE);
        check.due("child of the END", x.child(7, 0), SharedSyntax.NONE);
    }

    private static void finding() {
        SharedSyntax x = Check.of("a + ) ;\n");
        check.due("tree", Check.tree(x), "20(24(26(1:a 11: + ?1) ?6) 25(6: ) ;) 17:\n)");
        int[] due = {3, 4, 4, 8, 8, 8, 8, 9, 9};
        for (int p = 0; p < due.length; p++) {
            check.due("find " + p, x.find(p), due[p]);
        }
        int[] none = {-1, 9, 60, 61, Integer.MAX_VALUE, Integer.MIN_VALUE};
        for (int p : none) {
            check.due("find " + p, x.find(p), SharedSyntax.NONE);
        }
        check.due("find in an empty text", new SharedSyntax().find(0), 1);
        check.due("find behind an empty text", new SharedSyntax().find(1), SharedSyntax.NONE);
    }

    private static void equalLeaves() {
        SharedSyntax x = Check.of("a;a; a;b;1;)a;)a;");
        check.due("tree", Check.tree(x), "20(24(1:a 6:;) 24(1:a 6:;) 24(1: a 6:;) 24(1:b 6:;) 24(2:1 6:;) "
            + "24(1:)a 6:;) 24(1:)a 6:;) 17:)");
        check.due("same letter", x.equal(2, 5), true);
        check.due("other blanks", x.equal(2, 8), false);
        check.due("other letter", x.equal(2, 11), false);
        check.due("other kind", x.equal(2, 14), false);
        check.due("with a skipped token", x.equal(2, 17), false);
        check.due("with the same skipped token", x.equal(17, 20), true);
        check.due("a node with itself", x.equal(0, 0), true);
        check.due("statements", x.equal(1, 4), true);
        check.due("statement and leaf", x.equal(1, 2), false);

        SharedSyntax y = Check.of("(((((((");
        check.due("tree", Check.tree(y), "20(24(28(9:( 28(9:( 28(9:( 28(9:( 28(9:( 28(9:( ?1 ?10) ?10) ?10) ?10) ?10) ?10) "
            + "?6) 24(28(9:( ?1 ?10) ?6) 17:)");
        check.due("missing with other faults", y.equal(14, 25), false);
        check.due("missing with the same fault", y.equal(15, 20), true);
        check.due("missing of another kind", y.equal(20, 21), false);
        check.due("parentheses round them", y.equal(12, 23), false);
    }

    private static void equalLeavesOfOtherLengths() {
        SharedSyntax x = Check.of("a;ab;");
        check.due("longer", x.equal(2, 5), false);
        check.due("shorter", x.equal(5, 2), false);
        SharedSyntax y = Check.of("if(a);if(a);else;");
        check.due("more children", y.equal(1, 8), false);
        check.due("fewer children", y.equal(8, 1), false);
        check.due("the parts before the else", y.equal(6, 13), true);
    }

    private static void equalNodes() {
        SharedSyntax x = Check.of("{a;}{a;}{a;a;}");
        check.due("same blocks", x.equal(1, 7), true);
        check.due("other number of children", x.equal(1, 13), false);
        SharedSyntax y = Check.of("(a-b-c)<(a-b)-c;");
        check.due("other shape", Check.tree(y, 5) + " " + Check.tree(y, 15),
            "26(26(1:a 12:- 1:b) 12:- 1:c) 28(9:( 26(1:a 12:- 1:b) 10:))");
        check.due("same part", y.equal(6, 17), true);
        SharedSyntax z = Check.of("if(a)if(a);else;");
        check.due("with and without else", z.equal(1, 6), false);
    }

    private static void differentNodes() {
        check.due("empty", new SharedSyntax().count(3), 2);
        check.due("a;a;a;", Check.of("a;a;a;").count(3), 5);
        check.due("a;a ;", Check.of("a;a ;").count(3), 7);
        check.due("{{{", Check.of("{{{").count(3), 7);
        check.due("a+a=a+a;", Check.of("a+a=a+a;").count(3), 9);
        SharedSyntax x = Check.of("a;b;");
        x.undo();
        check.due("after undo", x.count(3), 2);
    }

    private static void counts() {
        SharedSyntax x = Check.of("if(a)");
        check.due("nodes", x.count(0), 9);
        check.due("leaves", x.count(1), 6);
        check.due("faults", x.count(2), 1);
        int[] none = {-1, 8, 9, Integer.MAX_VALUE, Integer.MIN_VALUE};
        for (int what : none) {
            check.due("count " + what, x.count(what), SharedSyntax.NONE);
        }
    }
}
