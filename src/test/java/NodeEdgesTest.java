/** The numbering of the nodes, stretches, equal nodes and faults, and the edges of promises 6 to 11. */
public final class NodeEdgesTest {
    private static final Check check = new Check("NodeEdgesTest");
    private static final int NONE = SharedSyntax.NONE;

    private static final String[] TEXTS = {
        "", " ", "a", "~", ";", "a;", " a= ~;) -2", "if", "if(a)b;else c;", "while(a<1){a=a-1;}#end", "{ ) ~", "(((((((",
        "-------1;", "{{{{{{{;if}}", "if if if if if if if;", "a=b=c;d-e-f;", "else } ) a\n;", "a" + "=".repeat(59),
        ";".repeat(60), " ".repeat(60), "(".repeat(60), "~".repeat(60), States.TWENTY.repeat(3),
    };

    public static void main(String[] args) {
        for (String text : TEXTS) {
            nodesOf(text);
            placesOf(text);
            faultsOf(text);
            noSuchNode(text);
            noSuchWhat(text);
            noSuchChild(text);
            noSuchPlace(text);
            noSuchFault(text);
        }
        parents();
        stretchOfMissing();
        ownCharacters();
        whatIsMissing();
        findAtTheEdges();
        equalLeaves();
        equalMissingLeaves();
        equalNodes();
        equalBothWays();
        placeOfFaults();
        orderOfFaults();
        check.end();
    }

    // "a node before its children, a child with all below it before the next child"; "that of its leaves with their blanks"
    private static void nodesOf(String text) {
        int nodes = Check.of(text).count(0);
        int leaves = 0;
        for (int k = 0; k < nodes; k++) {
            SharedSyntax x = Check.of(text);
            String what = "node " + k + " of " + text + ": ";
            int children = x.node(k, 4);
            leaves += children == 0 ? 1 : 0;
            check.due(what + "has children or is a leaf", children > 0, x.node(k, 0) >= 20);
            int next = k + 1;
            int end = x.node(k, 1);
            int faults = 0;
            for (int c = 0; c < children; c++) {
                check.due(what + "child " + c, x.child(k, c), next);
                check.due(what + "parent of child " + c, x.node(next, 5), k);
                check.due(what + "child " + c + " begins", x.node(next, 1), end);
                end += x.node(next, 2);
                faults += x.node(next, 7);
                next += x.node(next, 8);
            }
            check.due(what + "nodes", x.node(k, 8), next - k);
            if (children > 0) {
                check.due(what + "stretch", x.node(k, 2), end - x.node(k, 1));
                check.due(what + "faults", x.node(k, 7), faults);
                check.due(what + "own characters", x.node(k, 3), x.node(k + 1, 3));
            }
        }
        check.due("leaves of " + text, Check.of(text).count(1), leaves);
        check.due("the program has all nodes of " + text, Check.of(text).node(0, 8), nodes);
        check.due("the program has all characters of " + text, Check.of(text).node(0, 2), text.length());
        check.due("the program has all faults of " + text, Check.of(text).node(0, 7), Check.of(text).count(2));
    }

    // 6: "The character at place p"; 9: "The number of the leaf in whose stretch place p lies"
    private static void placesOf(String text) {
        SharedSyntax x = Check.of(text);
        for (int p = 0; p < text.length(); p++) {
            check.due("letter " + p + " of " + text, x.letter(p), text.charAt(p));
            int k = x.find(p);
            check.due("find " + p + " is a leaf of " + text, x.node(k, 4), 0);
            int begin = x.node(k, 1);
            check.due("find " + p + " of " + text, begin <= p && p < begin + x.node(k, 2), true);
        }
        check.due("find the END of " + text, x.find(text.length()), x.count(0) - 1);
    }

    // 7: "how many faults the leaves in it have"; 11: "The k-th fault (from 0 on)"
    private static void faultsOf(String text) {
        SharedSyntax x = Check.of(text);
        int faults = x.count(2);
        int inLeaves = 0;
        for (int k = 0; k < x.count(0); k++) {
            inLeaves += x.node(k, 4) == 0 ? x.node(k, 7) : 0;
        }
        check.due("faults of the leaves of " + text, inLeaves, faults);
        for (int k = 0; k < faults; k++) {
            int number = x.fault(k) % 4;
            int place = x.fault(k) / 4;
            check.due("fault " + k + " of " + text, number >= 1 && number <= 3 && place >= 0 && place <= text.length(), true);
        }
    }

    // 7: "NONE when there is no node k"; 8: "NONE when there is none."; 10: "false when one of them does not exist."
    private static void noSuchNode(String text) {
        int nodes = Check.of(text).count(0);
        for (int k : Check.outside(nodes)) {
            SharedSyntax x = Check.of(text);
            String of = k + " of " + text;
            for (int what = -1; what <= 9; what++) {
                check.due("what " + what + " of node " + of, x.node(k, what), NONE);
                check.due("child " + what + " of node " + of, x.child(k, what), NONE);
            }
            for (int far : new int[] {Integer.MIN_VALUE, Integer.MAX_VALUE}) {
                check.due("what " + far + " of node " + of, x.node(k, far), NONE);
                check.due("child " + far + " of node " + of, x.child(k, far), NONE);
            }
            for (int j : new int[] {0, nodes - 1, k, nodes, -1}) {
                check.due("equal(" + j + ", k), k = " + of, x.equal(j, k), false);
                check.due("equal(k, " + j + "), k = " + of, x.equal(k, j), false);
            }
        }
        SharedSyntax x = Check.of(text);
        check.due("the last node of " + text, x.node(nodes - 1, 0), 17);
        check.due("the last node of " + text + " equals itself", x.equal(nodes - 1, nodes - 1), true);
        check.due("the first node of " + text, x.node(0, 0), 20);
        check.due("the first node of " + text + " equals itself", x.equal(0, 0), true);
        check.due("the first and the last node of " + text, x.equal(0, nodes - 1), false);
    }

    // 7: "NONE .. for another what": 0 to 8 are those that are said.
    private static void noSuchWhat(String text) {
        SharedSyntax x = Check.of(text);
        for (int k : new int[] {0, x.count(0) / 2, x.count(0) - 1}) {
            for (int what : Check.outside(9)) {
                check.due("what " + what + " of node " + k + " of " + text, x.node(k, what), NONE);
            }
            for (int what = 0; what <= 8; what++) {
                boolean none = what == 5 && k == 0;
                check.due("what " + what + " of node " + k + " of " + text, x.node(k, what) == NONE, none);
            }
        }
    }

    // 8: "The number of the c-th child (from 0 on) of node k; NONE when there is none."
    private static void noSuchChild(String text) {
        int nodes = Check.of(text).count(0);
        for (int k = 0; k < nodes; k++) {
            SharedSyntax x = Check.of(text);
            int children = x.node(k, 4);
            for (int c : Check.outside(children)) {
                check.due("child " + c + " of node " + k + " of " + text, x.child(k, c), NONE);
            }
            if (children > 0) {
                check.due("the first child of node " + k + " of " + text, x.child(k, 0), k + 1);
                int last = x.child(k, children - 1);
                check.due("the last child of node " + k + " of " + text, last + x.node(last, 8), k + x.node(k, 8));
            }
        }
    }

    // 6: "0 when there is none."; 9: "NONE when p is not 0 .. length()."
    private static void noSuchPlace(String text) {
        SharedSyntax x = Check.of(text);
        for (int p : Check.outside(text.length())) {
            check.due("letter " + p + " of " + text, x.letter(p), 0);
        }
        for (int p : Check.outside(text.length() + 1)) {
            check.due("find " + p + " of " + text, x.find(p), NONE);
        }
    }

    // 11: "NONE when there is none."
    private static void noSuchFault(String text) {
        SharedSyntax x = Check.of(text);
        int faults = x.count(2);
        for (int k : Check.outside(faults)) {
            check.due("fault " + k + " of " + text, x.fault(k), NONE);
        }
        if (faults > 0) {
            check.due("the first fault of " + text, x.fault(0) != NONE, true);
            check.due("the last fault of " + text, x.fault(faults - 1) != NONE, true);
        }
    }

    // 7: "the number of its parent for 5 (NONE for node 0)"
    private static void parents() {
        check.due("parent of node 0", new SharedSyntax().node(0, 5), NONE);
        check.due("parent of node 1", new SharedSyntax().node(1, 5), 0);
        SharedSyntax x = Check.of("{{a;}b;}");
        check.due("tree", Check.tree(x), "20(21(7:{ 21(7:{ 24(1:a 6:;) 8:}) 24(1:b 6:;) 8:}) 17:)");
        int[] due = {NONE, 0, 1, 1, 3, 3, 5, 5, 3, 1, 9, 9, 1, 0};
        for (int k = 0; k < due.length; k++) {
            check.due("parent of node " + k, x.node(k, 5), due[k]);
        }
    }

    private static void missingDue(String text, int k, int kind, int place) {
        SharedSyntax x = Check.of(text);
        int[] due = {kind, place, 0, place, 0, -2, 1, 1, 1};
        for (int what = 0; what <= 8; what++) {
            if (what != 5) {
                check.due("missing leaf " + k + " of " + text + ": " + what, x.node(k, what), due[what]);
            }
        }
    }

    // "that of a missing leaf is empty, and lies where the blanks before the current token begin (those that skipped .."
    private static void stretchOfMissing() {
        missingDue("a", 3, 6, 1);
        missingDue("a ", 3, 6, 1);
        missingDue("a \n#b", 3, 6, 1);
        missingDue("a }", 3, 6, 1);
        missingDue("a b", 3, 6, 1);
        missingDue("a b", 6, 6, 3);
        missingDue("{", 3, 8, 1);
        missingDue("{  ", 3, 8, 1);
        missingDue("{ ) ~ ", 3, 8, 1);
        missingDue("{ a; ) ~ ", 6, 8, 4);
        missingDue("{{ ) ", 5, 8, 2);
        missingDue("{{ ) ", 6, 8, 2);
        missingDue("if  a", 3, 9, 2);
        missingDue("if  a", 5, 10, 5);
        missingDue("if  a", 7, 6, 5);
        missingDue("if ( )", 4, 1, 4);
        missingDue("( \n* a", 5, 1, 1);
        missingDue("(".repeat(60), 210, 6, 60);
        missingDue("a" + "=".repeat(59), 180, 6, 60);
    }

    // 7: "where the own characters of its first leaf begin for 3 (of a missing one: where its stretch is)"
    private static void ownCharacters() {
        SharedSyntax x = Check.of(" \n{ #c\n a ~ ; } ");
        check.due("tree", Check.tree(x), "20(21(7: \n{ 24(1: #c\n a ?6) 25(6: ~ ;) 8: }) 17: )");
        int[] due = {2, 2, 2, 8, 8, 9, 12, 12, 14, 16};
        for (int k = 0; k < due.length; k++) {
            check.due("own characters of node " + k, x.node(k, 3), due[k]);
        }
        SharedSyntax missingFirst = Check.of("if ( * b) ");
        check.due("tree", Check.tree(missingFirst), "20(22(3:if 9: ( 26(?1 13: * 1: b) 10:) 25(?6)) 17: )");
        int[] dueMissing = {0, 0, 0, 3, 4, 4, 5, 7, 8, 9, 9, 10};
        for (int k = 0; k < dueMissing.length; k++) {
            check.due("own characters of node " + k + " with a missing leaf", missingFirst.node(k, 3), dueMissing[k]);
        }
    }

    // 7: "1 if it is a missing leaf, otherwise 0, for 6": neither the END without characters, nor what has but missing leaves.
    private static void whatIsMissing() {
        SharedSyntax x = Check.of("if");
        check.due("tree", Check.tree(x), "20(22(3:if ?9 ?1 ?10 25(?6)) 17:)");
        int[] due = {0, 0, 0, 1, 1, 1, 0, 1, 0};
        for (int k = 0; k < due.length; k++) {
            check.due("node " + k + " is missing", x.node(k, 6), due[k]);
        }
        check.due("the END of an empty text", new SharedSyntax().node(1, 6), 0);
        check.due("the program of an empty text", new SharedSyntax().node(0, 6), 0);
    }

    // 9: "that of the END for p = length()"
    private static void findAtTheEdges() {
        check.due("find 0 in an empty text", new SharedSyntax().find(0), 1);
        check.due("find 1 in an empty text", new SharedSyntax().find(1), NONE);
        check.due("find -1 in an empty text", new SharedSyntax().find(-1), NONE);
        SharedSyntax full = Check.of(";".repeat(60));
        check.due("find 0 of 60", full.find(0), 2);
        check.due("find 59 of 60", full.find(59), 120);
        check.due("find 60 of 60", full.find(60), 121);
        check.due("find 61 of 60", full.find(61), NONE);
        // The leaf with the place, not a missing one that lies there, nor the one that ends there.
        SharedSyntax x = Check.of("a \nb;#");
        check.due("tree", Check.tree(x), "20(24(1:a ?6) 24(1: \nb 6:;) 17:#)");
        int[] due = {2, 5, 5, 5, 6, 7, 7};
        for (int p = 0; p < due.length; p++) {
            check.due("find " + p, x.find(p), due[p]);
        }
        x.undo();
        check.due("find in the text before", x.find(0), 1);
        check.due("find behind the text before", x.find(1), NONE);
    }

    private static void equalDue(String text, int k, int j, boolean due) {
        SharedSyntax x = Check.of(text);
        check.due("equal(" + k + ", " + j + ") of " + text, x.equal(k, j), due);
        check.due("equal(" + j + ", " + k + ") of " + text, x.equal(j, k), due);
    }

    // "leaves: the same characters in their stretches, with skipped tokens at the same places of them"
    private static void equalLeaves() {
        equalDue("a;a;", 2, 5, true);
        equalDue("a;b;", 2, 5, false);
        equalDue("a;aa;", 2, 5, false);
        equalDue("ab;ac;", 2, 5, false);
        equalDue("abcd;abzd;", 2, 5, false);
        equalDue("abcd;abcd;", 2, 5, true);
        equalDue("#a\nb;#c\nb;", 2, 5, false);
        equalDue("a; a;", 2, 5, false);
        equalDue(" a; a;", 2, 5, true);
        equalDue(" a;\na;", 2, 5, false);
        equalDue("#\na;#\na;", 2, 5, true);
        equalDue("#\na;##\na;", 2, 5, false);
        equalDue("a;1;", 2, 5, false);
        equalDue("a;a;", 3, 6, true);
        equalDue("a;a ;", 3, 6, false);
        equalDue("~a;~a;", 2, 5, true);
        equalDue("~a;a;", 2, 5, false);
        equalDue("~a;?a;", 2, 5, false);
        equalDue("~ a; ~a;", 2, 5, false);
        equalDue("~ a;~ a;", 2, 5, true);
        equalDue("#~\na;~a;", 2, 5, false);
        equalDue("a;", 2, 3, false);
        equalDue("a;", 2, 4, false);
    }

    // "Two nodes are EQUAL if they have the same kind; and .. the same faults"
    private static void equalMissingLeaves() {
        for (int k : new int[] {3, 4, 5, 7, 8}) {
            for (int j : new int[] {3, 4, 5, 7, 8}) {
                equalDue("if", k, j, k == j);
            }
        }
        equalDue("a b", 3, 6, true);
        equalDue("{a{", 4, 5, false);
        equalDue("{{", 5, 6, true);
        // A missing operand with fault 3 and one with fault 2.
        equalDue("(((((((", 14, 25, false);
        equalDue("-------", 15, 17, false);
        equalDue("(".repeat(14), 14, 35, true);
        equalDue("(".repeat(14), 1, 22, true);
        equalDue("(".repeat(12), 1, 22, false);
        // Missing parts with fault 3 and with fault 2, and both with 3.
        String five = "{{{{{if(a){}if(a)";
        equalDue(five, 14, 24, true);
        equalDue(five, 17, 27, false);
        equalDue(five, 16, 26, false);
        equalDue(five, 11, 21, false);
        equalDue(five + "{}", 17, 27, true);
        equalDue(five + "{}", 16, 26, true);
        equalDue(five + "{}", 11, 21, true);
    }

    // "other nodes: as many children, which are equal one by one"
    private static void equalNodes() {
        equalDue("{}{}", 1, 4, true);
        equalDue("{};", 1, 4, false);
        equalDue("{;}{;;}", 1, 6, false);
        equalDue("{;}{; }", 1, 6, false);
        equalDue("{;}{;", 1, 6, false);
        equalDue("{a;b;}{b;a;}", 1, 10, false);
        equalDue("{a;b;}{a;b;}", 1, 10, true);
        equalDue("{a;b;}{a;c;}", 1, 10, false);
        equalDue("a-b;a-b;", 2, 8, true);
        equalDue("a-b;a+b;", 2, 8, false);
        equalDue("-a;a;", 2, 7, false);
        equalDue("(a);(a);", 2, 8, true);
        equalDue("(a);(a;", 2, 8, false);
        equalDue("a;a", 1, 4, false);
        equalDue("a;", 0, 1, false);
        equalDue("if(a);if(a);else;", 1, 8, false);
        equalDue("if(a);while(a);", 1, 8, false);
        // The same leaves, as children of other nodes.
        SharedSyntax x = Check.of("a=b=c;(a=b)=c;");
        check.due("tree", Check.tree(x), "20(24(26(1:a 15:= 26(1:b 15:= 1:c)) 6:;) "
            + "24(26(28(9:( 26(1:a 15:= 1:b) 10:)) 15:= 1:c) 6:;) 17:)");
        check.due("b = c and a = b", x.equal(5, 14), false);
        check.due("the two statements", x.equal(1, 10), false);
    }

    private static void equalBothWays() {
        for (String text : TEXTS) {
            int nodes = Math.min(Check.of(text).count(0), 20);
            for (int k = 0; k < nodes; k++) {
                SharedSyntax x = Check.of(text);
                check.due("equal to itself: " + k + " of " + text, x.equal(k, k), true);
                for (int j = 0; j < k; j++) {
                    check.due("equal both ways: " + k + ", " + j + " of " + text, x.equal(k, j), x.equal(j, k));
                }
            }
        }
        // After an edit and after going back it is the present tree that counts.
        SharedSyntax x = Check.of("a;a;");
        Check.put(x, 2, 1, "b");
        check.due("equal after an edit", x.equal(1, 4), false);
        x.undo();
        check.due("equal after going back", x.equal(1, 4), true);
    }

    // "The place of a fault is that of the skipped token's first own character, or that of the missing leaf."
    private static void placeOfFaults() {
        check.dueTree("~", "20(17:~)", "0/1");
        check.dueTree("  ~", "20(17:  ~)", "2/1");
        check.dueTree("#~\n ~", "20(17:#~\n ~)", "4/1");
        check.dueTree(" else ;", "20(25(6: else ;) 17:)", "1/1");
        check.dueTree("{{{{{{\n while;",
            "20(21(7:{ 21(7:{ 21(7:{ 21(7:{ 21(7:{ 21(7:{ 25(6:\n while;) ?8) ?8) ?8) ?8) ?8) ?8) 17:)",
            "8/3 14/2 14/2 14/2 14/2 14/2 14/2");
        check.dueTree("a  ~ ;", "20(24(1:a ?6) 25(6:  ~ ;) 17:)", "1/2 3/1");
        check.due("at the last place", Check.of(" ".repeat(59) + "~").fault(0), 4 * 59 + 1);
        check.due("behind the last place", Check.of("a".repeat(60)).fault(0), 4 * 60 + 2);
        check.due("too deep at the last place", Check.of("{{{{{{" + " ".repeat(53) + "{").fault(6), 4 * 59 + 3);
    }

    // "in the order of the leaves that they are in (a skipped token's: the leaf whose blanks have it), those in the same .."
    private static void orderOfFaults() {
        check.dueTree("{)", "20(21(7:{ ?8) 17:))", "1/2 1/1");
        check.dueTree("{)~", "20(21(7:{ ?8) 17:)~)", "1/2 1/1 2/1");
        check.dueTree("if)=a)", "20(22(3:if ?9 ?1 10:) 25(?6)) 24(1:=a ?6) 17:))", "2/2 2/2 3/2 3/1 5/2 5/1");
        check.dueTree("a~", "20(24(1:a ?6) 17:~)", "1/2 1/1");
        check.dueTree("-------", "20(24(26(27(12:- 27(12:- 27(12:- 27(12:- 27(12:- 27(12:- ?1)))))) 12:- ?1) ?6) 17:)",
            "6/3 7/2 7/2");
        check.dueTree("{{{{{{{~", "20(21(7:{ 21(7:{ 21(7:{ 21(7:{ 21(7:{ 21(7:{ ?8) ?8) ?8) ?8) ?8) ?8) 17:{~)",
            "6/2 6/2 6/2 6/2 6/2 6/2 6/3 7/1");
        check.dueTree("{{{{{{~{}", "20(21(7:{ 21(7:{ 21(7:{ 21(7:{ 21(7:{ 21(7:{ 8:~{}) ?8) ?8) ?8) ?8) ?8) 17:)",
            "6/1 7/3 9/2 9/2 9/2 9/2 9/2");
    }
}
