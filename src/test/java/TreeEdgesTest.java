/** The edges of the terms under THE TREE: depth 6, 6 parentheses and signs, missing leaves and skipped tokens. */
public final class TreeEdgesTest {
    private static final Check check = new Check("TreeEdgesTest");

    /** A token of each kind, by its kind. */
    private static final String[] TOKEN = {
        "", "a", "7", "if", "else", "while", ";", "{", "}", "(", ")", "+", "-", "*", "<", "=", "~",
    };
    /** The statement that a token begins if the END is behind it, by its kind; none if it can begin none. */
    private static final String[] BEGUN = {
        "", "24(1:a ?6)", "24(2:7 ?6)", "22(3:if ?9 ?1 ?10 25(?6))", "", "23(5:while ?9 ?1 ?10 25(?6))", "25(6:;)",
        "21(7:{ ?8)", "", "24(28(9:( ?1 ?10) ?6)", "", "", "24(27(12:- ?1) ?6)", "", "", "", "",
    };

    public static void main(String[] args) {
        everyTokenOnce();
        expectedLeaves();
        expectedByEveryToken();
        whatBeginsAStatement();
        listsInBlocks();
        depthOfLists();
        partsByTheirToken();
        depthOfParts();
        depthOfMixtures();
        elses();
        operandsByTheirToken();
        operandsInSix();
        nestingOfOperands();
        nestingBeginsAnew();
        pairsOfSigns();
        signsThatGoOn();
        check.end();
    }

    private static void due(String text, String tree, String faults) {
        check.dueTree(text, tree, faults);
    }

    private static boolean nests(int kind) {
        return kind == 3 || kind == 5 || kind == 7;
    }

    /** So many faults of the number at the place, each with a blank before it. */
    private static String faults(int many, int place, int number) {
        return (" " + place + "/" + number).repeat(many);
    }

    private static int missingIn(String tree) {
        return tree.length() - tree.replace("?", "").length();
    }

    // "going over the tokens once; the CURRENT one is the next that was not used. To TAKE it makes it a leaf."
    private static void everyTokenOnce() {
        int tokens = 16;
        for (int i = 0; i < tokens * tokens * tokens; i++) {
            int[] kinds = {i % tokens + 1, i / tokens % tokens + 1, i / tokens / tokens + 1};
            String text = TOKEN[kinds[0]] + " " + TOKEN[kinds[1]] + " " + TOKEN[kinds[2]];
            check.due("tokens of " + text, usedTokens(text), kinds[0] + " " + kinds[1] + " " + kinds[2] + " 17");
        }
    }

    /** The kinds of the tokens that are leaves or were skipped before one, in the order of their places. */
    private static String usedTokens(String text) {
        SharedSyntax x = Check.of(text);
        int nodes = x.count(0);
        StringBuilder used = new StringBuilder();
        for (int k = 0; k < nodes; k++) {
            boolean taken = x.node(k, 4) == 0 && x.node(k, 6) == 0;
            if (taken) {
                // Of these texts each token but the last has a blank behind it.
                String blanks = text.substring(x.node(k, 1), x.node(k, 3)).trim();
                String[] skipped = blanks.isEmpty() ? new String[0] : blanks.split(" ");
                check.due("skipped before leaf " + k + " of " + text, x.node(k, 7), skipped.length);
                for (String token : skipped) {
                    used.append(kindOf(token)).append(' ');
                }
                used.append(x.node(k, 0)).append(' ');
            }
        }
        return used.toString().trim();
    }

    private static int kindOf(String token) {
        int kind = 1;
        while (!TOKEN[kind].equals(token)) {
            kind++;
        }
        return kind;
    }

    // "if the current token is of kind K it is taken, otherwise there is a MISSING leaf .. which has a FAULT 2"
    private static void expectedLeaves() {
        due("if(a);", "20(22(3:if 9:( 1:a 10:) 25(6:;)) 17:)", "");
        due("if a);", "20(22(3:if ?9 1: a 10:) 25(6:;)) 17:)", "2/2");
        due("if(a;", "20(22(3:if 9:( 1:a ?10 25(6:;)) 17:)", "4/2");
        due("while(a);", "20(23(5:while 9:( 1:a 10:) 25(6:;)) 17:)", "");
        due("while a);", "20(23(5:while ?9 1: a 10:) 25(6:;)) 17:)", "5/2");
        due("while(a;", "20(23(5:while 9:( 1:a ?10 25(6:;)) 17:)", "7/2");
        due("{a;}", "20(21(7:{ 24(1:a 6:;) 8:}) 17:)", "");
        due("{a;", "20(21(7:{ 24(1:a 6:;) ?8) 17:)", "3/2");
        due("a;", "20(24(1:a 6:;) 17:)", "");
        due("a", "20(24(1:a ?6) 17:)", "1/2");
        due("(a);", "20(24(28(9:( 1:a 10:)) 6:;) 17:)", "");
        due("(a;", "20(24(28(9:( 1:a ?10) 6:;) 17:)", "2/2");
        // A token of another kind is not used: it goes on with what comes next.
        due("if{}", "20(22(3:if ?9 ?1 ?10 21(7:{ 8:})) 17:)", "2/2 2/2 2/2");
        due("if)a;", "20(22(3:if ?9 ?1 10:) 24(1:a 6:;)) 17:)", "2/2 2/2");
        due("(a}", "20(24(28(9:( 1:a ?10) ?6) 17:})", "2/2 2/2 2/1");
    }

    // The same with each token where a kind is expected: behind the text the leaf k is due, there or missing.
    private static void expectedByEveryToken() {
        String[] before = {"if", "while", "if(a", "while(a", "(a", "a", "{"};
        int[] leaf = {3, 3, 5, 5, 5, 3, 3};
        int[] due = {9, 9, 10, 10, 10, 6, 8};
        for (int i = 0; i < before.length; i++) {
            boolean behindOperand = before[i].endsWith("a");
            for (int kind = 1; kind <= 16; kind++) {
                boolean goesOn = behindOperand && kind >= 11 && kind <= 15 || due[i] == 8 && !BEGUN[kind].isEmpty();
                if (!goesOn) {
                    expectedDue(before[i] + " " + TOKEN[kind], leaf[i], due[i], before[i].length(), kind == due[i]);
                }
            }
            expectedDue(before[i] + " ", leaf[i], due[i], before[i].length(), false);
        }
    }

    private static void expectedDue(String text, int k, int kind, int place, boolean there) {
        SharedSyntax x = Check.of(text);
        check.due("kind of leaf " + k + " of " + text, x.node(k, 0), kind);
        check.due("leaf " + k + " begins in " + text, x.node(k, 1), place);
        check.due("leaf " + k + " is missing in " + text, x.node(k, 6), there ? 0 : 1);
        check.due("characters of leaf " + k + " of " + text, x.node(k, 2), there ? 2 : 0);
        check.due("faults of leaf " + k + " of " + text, x.node(k, 7), there ? 0 : 1);
        if (!there) {
            check.due("fault of leaf " + k + " of " + text, x.fault(0), 4 * place + 2);
        }
    }

    // "A token can begin a statement if it is of kind 1, 2, 3, 5, 6, 7, 9 or 12."; skipped: "FAULT .. otherwise 1"
    private static void whatBeginsAStatement() {
        for (int kind = 1; kind <= 16; kind++) {
            String token = TOKEN[kind];
            if (BEGUN[kind].isEmpty()) {
                due(token, "20(17:" + token + ")", "0/1");
                due(";" + token, "20(25(6:;) 17:" + token + ")", "1/1");
                due(" " + token + " ;", "20(25(6: " + token + " ;) 17:)", "1/1");
            } else {
                String missing = faults(missingIn(BEGUN[kind]), token.length(), 2);
                due(token, "20(" + BEGUN[kind] + " 17:)", missing.trim());
            }
        }
    }

    // "as long as the current token is not the END (nor, in a block, a })"
    private static void listsInBlocks() {
        due("}", "20(17:})", "0/1");
        due("}{}}", "20(21(7:}{ 8:}) 17:})", "0/1 3/1");
        due("{}", "20(21(7:{ 8:}) 17:)", "");
        due("{;;}", "20(21(7:{ 25(6:;) 25(6:;) 8:}) 17:)", "");
        due("{{}}}", "20(21(7:{ 21(7:{ 8:}) 8:}) 17:})", "4/1");
        due("{{}", "20(21(7:{ 21(7:{ 8:}) ?8) 17:)", "3/2");
        due("{)", "20(21(7:{ ?8) 17:))", "1/2 1/1");
        due("if(a)}", "20(22(3:if 9:( 1:a 10:) 25(?6)) 17:})", "5/2 5/1");
        due("{if(a)}", "20(21(7:{ 22(3:if 9:( 1:a 10:) 25(?6)) 8:}) 17:)", "6/2");
    }

    // "and is not an if, while or { where d is 6 .. otherwise the token is SKIPPED"; "FAULT, 3 if it could begin"
    private static void depthOfLists() {
        for (int depth = 1; depth <= 6; depth++) {
            String before = "20(" + "21(7:{ ".repeat(depth);
            String behind = "?8) ".repeat(depth);
            for (int kind = 1; kind <= 16; kind++) {
                String token = TOKEN[kind];
                String text = "{".repeat(depth) + token;
                boolean tooDeep = depth == 6 && nests(kind);
                if (kind == 8) {
                    due(text, before + "8:}) " + "?8) ".repeat(depth - 1) + "17:)", faults(depth - 1, depth + 1, 2).trim());
                } else if (tooDeep || BEGUN[kind].isEmpty()) {
                    String faults = faults(depth, depth, 2) + faults(1, depth, tooDeep ? 3 : 1);
                    due(text, before + behind + "17:" + token + ")", faults.trim());
                } else {
                    int missing = missingIn(BEGUN[kind]) + depth;
                    due(text, before + BEGUN[kind] + " " + behind + "17:)", faults(missing, text.length(), 2).trim());
                }
            }
        }
        due("{{{{{{ { ; if ) }", "20(21(7:{ 21(7:{ 21(7:{ 21(7:{ 21(7:{ 21(7:{ 25(6: { ;) 8: if ) }) ?8) ?8) ?8) ?8) ?8) 17:)",
            "7/3 11/3 14/1 17/2 17/2 17/2 17/2 17/2");
        due("{{{{{{}{{}", "20(21(7:{ 21(7:{ 21(7:{ 21(7:{ 21(7:{ 21(7:{ 8:}) 21(7:{ 8:{}) ?8) ?8) ?8) ?8) ?8) 17:)",
            "8/3 10/2 10/2 10/2 10/2 10/2");
    }

    // "A PART ..: otherwise 25 EMPTY with a missing leaf of kind 6, which has a FAULT .. 2"
    private static void partsByTheirToken() {
        String[] before = {"if(a)", "if(a);else\n", "while(a)"};
        String[] shown = {"22(3:if 9:( 1:a 10:) ", "22(3:if 9:( 1:a 10:) 25(6:;) 4:else ", "23(5:while 9:( 1:a 10:) "};
        for (int i = 0; i < before.length; i++) {
            int place = i == 1 ? before[i].length() - 1 : before[i].length();
            String blank = i == 1 ? "\n" : "";
            due(before[i], "20(" + shown[i] + "25(?6)) 17:" + blank + ")", place + "/2");
            for (int kind = 1; kind <= 16; kind++) {
                String text = before[i] + TOKEN[kind];
                if (i == 0 && kind == 4) {
                    due(text, "20(" + shown[i] + "25(?6) 4:else 25(?6)) 17:)", "5/2 9/2");
                } else if (BEGUN[kind].isEmpty()) {
                    String faults = place + "/2 " + before[i].length() + "/1";
                    due(text, "20(" + shown[i] + "25(?6)) 17:" + blank + TOKEN[kind] + ")", faults);
                } else {
                    String statement = BEGUN[kind].replaceFirst(":", ":" + blank);
                    String faults = faults(missingIn(statement), text.length(), 2);
                    due(text, "20(" + shown[i] + statement + ") 17:)", faults.trim());
                }
            }
        }
    }

    // "where d is 6 .. a missing leaf of kind 6, which has a FAULT 3 if the current token can begin a statement"
    private static void depthOfParts() {
        String[] nested = {"{}", "if(b);", "while(b);"};
        String[] shown = {"21(7:\n{ 8:})", "22(3:\nif 9:( 1:b 10:) 25(6:;))", "23(5:\nwhile 9:( 1:b 10:) 25(6:;))"};
        String[] before = {"if(a)", "if(a);else", "while(a)"};
        String[] begun = {"22(3:if 9:( 1:a 10:) ", "22(3:if 9:( 1:a 10:) 25(6:;) 4:else ", "23(5:while 9:( 1:a 10:) "};
        for (int i = 0; i < before.length; i++) {
            for (int j = 0; j < nested.length; j++) {
                String four = "{{{{" + before[i] + "\n" + nested[j] + "}}}}";
                due(four, "20(21(7:{ 21(7:{ 21(7:{ 21(7:{ " + begun[i] + shown[j] + ") 8:}) 8:}) 8:}) 8:}) 17:)", "");
                String five = "{{{{{" + before[i] + "\n" + nested[j] + "}}}}}";
                // The part is too deep; in the list round it the same token is not.
                due(five, "20(21(7:{ 21(7:{ 21(7:{ 21(7:{ 21(7:{ " + begun[i] + "25(?6)) " + shown[j]
                    + " 8:}) 8:}) 8:}) 8:}) 8:}) 17:)", 5 + before[i].length() + "/3");
            }
            String five = "{{{{{" + before[i];
            String open = "20(21(7:{ 21(7:{ 21(7:{ 21(7:{ 21(7:{ ";
            int place = five.length();
            due(five + "\na;}}}}}", open + begun[i] + "24(1:\na 6:;)) 8:}) 8:}) 8:}) 8:}) 8:}) 17:)", "");
            due(five + ";}}}}}", open + begun[i] + "25(6:;)) 8:}) 8:}) 8:}) 8:}) 8:}) 17:)", "");
            due(five + "}}}}}", open + begun[i] + "25(?6)) 8:}) 8:}) 8:}) 8:}) 8:}) 17:)", place + "/2");
            due(five + "~}}}}}", open + begun[i] + "25(?6)) 8:~}) 8:}) 8:}) 8:}) 8:}) 17:)", place + "/2 " + place + "/1");
        }
    }

    // "a PART at depth d + 1" in each of the three, "the statements of a list at depth d + 1"
    private static void depthOfMixtures() {
        due("if(a)while(a){if(a);else while(a){};}", "20(22(3:if 9:( 1:a 10:) 23(5:while 9:( 1:a 10:) 21(7:{ "
            + "22(3:if 9:( 1:a 10:) 25(6:;) 4:else 23(5: while 9:( 1:a 10:) 21(7:{ 8:}))) 25(6:;) 8:}))) 17:)", "");
        due("if(a)while(a){if(a);else while(a){{;}}}", "20(22(3:if 9:( 1:a 10:) 23(5:while 9:( 1:a 10:) 21(7:{ "
            + "22(3:if 9:( 1:a 10:) 25(6:;) 4:else 23(5: while 9:( 1:a 10:) 21(7:{ 25(6:{;) 8:}))) 8:}))) 17:})", "34/3 38/1");
        String six = "while while while while while while";
        String shown = "23(5:while ?9 ?1 ?10 " + "23(5: while ?9 ?1 ?10 ".repeat(5);
        String missing = faults(3, 5, 2) + faults(3, 11, 2) + faults(3, 17, 2) + faults(3, 23, 2) + faults(3, 29, 2)
            + faults(3, 35, 2);
        due(six, "20(" + shown + "25(?6)))))))" + " 17:)", (missing + " 35/2").trim());
        due(six + ";", "20(" + shown + "25(6:;)))))))" + " 17:)", missing.trim());
        due(six + " while;", "20(" + shown + "25(?6))))))) 23(5: while ?9 ?1 ?10 25(6:;)) 17:)",
            (missing + " 35/3" + faults(3, 41, 2)).trim());
        due(six + "{}", "20(" + shown + "25(?6))))))) 21(7:{ 8:}) 17:)", (missing + " 35/3").trim());
    }

    // "and if the current token is an else: that, taken, and a PART"
    private static void elses() {
        due("if(a);else;else;", "20(22(3:if 9:( 1:a 10:) 25(6:;) 4:else 25(6:;)) 25(6:else;) 17:)", "11/1");
        due("if(a)else;", "20(22(3:if 9:( 1:a 10:) 25(?6) 4:else 25(6:;)) 17:)", "5/2");
        due("if(a)else", "20(22(3:if 9:( 1:a 10:) 25(?6) 4:else 25(?6)) 17:)", "5/2 9/2");
        due("if(a);;else;", "20(22(3:if 9:( 1:a 10:) 25(6:;)) 25(6:;) 25(6:else;) 17:)", "7/1");
        due("while(a);else;", "20(23(5:while 9:( 1:a 10:) 25(6:;)) 25(6:else;) 17:)", "9/1");
        due("if(a)while(a);else;", "20(22(3:if 9:( 1:a 10:) 23(5:while 9:( 1:a 10:) 25(6:;)) 4:else 25(6:;)) 17:)", "");
        due("if(a)if(b);else;else;", "20(22(3:if 9:( 1:a 10:) 22(3:if 9:( 1:b 10:) 25(6:;) 4:else 25(6:;)) 4:else 25(6:;)) "
            + "17:)", "");
        due("if(a){if(b);}else;", "20(22(3:if 9:( 1:a 10:) 21(7:{ 22(3:if 9:( 1:b 10:) 25(6:;)) 8:}) 4:else 25(6:;)) 17:)", "");
    }

    /** What stands behind a statement with a missing operand, if the token is of that kind and the END behind it. */
    private static String nextStatement(int kind) {
        return BEGUN[kind].isEmpty() ? "17:" + TOKEN[kind] : BEGUN[kind] + " 17:";
    }

    // "1 or 2: the token taken .. 9: 28 .. 12: 27 .. otherwise: a missing leaf of kind 1, which has a FAULT .. 2"
    private static void operandsByTheirToken() {
        due("a=", "20(24(26(1:a 15:= ?1) ?6) 17:)", "2/2 2/2");
        due("a=b", "20(24(26(1:a 15:= 1:b) ?6) 17:)", "3/2");
        due("a=7", "20(24(26(1:a 15:= 2:7) ?6) 17:)", "3/2");
        due("a=(", "20(24(26(1:a 15:= 28(9:( ?1 ?10)) ?6) 17:)", "3/2 3/2 3/2");
        due("a=-", "20(24(26(1:a 15:= 27(12:- ?1)) ?6) 17:)", "3/2 3/2");
        due("a=;", "20(24(26(1:a 15:= ?1) 6:;) 17:)", "2/2");
        due("a=+", "20(24(26(1:a 15:= 26(?1 11:+ ?1)) ?6) 17:)", "2/2 3/2 3/2");
        due("a=*", "20(24(26(1:a 15:= 26(?1 13:* ?1)) ?6) 17:)", "2/2 3/2 3/2");
        due("a=<", "20(24(26(1:a 15:= 26(?1 14:< ?1)) ?6) 17:)", "2/2 3/2 3/2");
        due("a==", "20(24(26(1:a 15:= 26(?1 15:= ?1)) ?6) 17:)", "2/2 3/2 3/2");
        for (int kind : new int[] {3, 4, 5, 7, 8, 10, 16}) {
            String text = "a=" + TOKEN[kind];
            String behind = BEGUN[kind].isEmpty() ? " 2/1" : faults(missingIn(BEGUN[kind]), text.length(), 2);
            due(text, "20(24(26(1:a 15:= ?1) ?6) " + nextStatement(kind) + ")", "2/2 2/2" + behind);
        }
    }

    // "(in both cases only if p is not 6) .. a missing leaf of kind 1, which has a FAULT 3 if .. a 9 or 12, otherwise 2"
    private static void operandsInSix() {
        String open = "20(24(" + "28(9:( ".repeat(6);
        String closed = " ?10)".repeat(6);
        for (int kind = 1; kind <= 16; kind++) {
            String text = "((((((" + TOKEN[kind];
            int end = text.length();
            if (kind == 1 || kind == 2) {
                due(text, open + kind + ":" + TOKEN[kind] + closed + " ?6) 17:)", faults(7, end, 2).trim());
            } else if (kind == 6) {
                due(text, open + "?1" + closed + " 6:;) 17:)", faults(7, 6, 2).trim());
            } else if (kind == 9) {
                due(text, open + "?1" + closed + " ?6) " + BEGUN[9] + " 17:)", "6/3" + faults(7, 6, 2) + faults(3, 7, 2));
            } else if (kind == 10) {
                due(text, open + "?1 10:))" + " ?10)".repeat(5) + " ?6) 17:)", "6/2" + faults(6, 7, 2));
            } else if (kind >= 11 && kind <= 15) {
                String operand = "26(?1 " + kind + ":" + TOKEN[kind] + " ?1)";
                due(text, open + operand + closed + " ?6) 17:)", "6/" + (kind == 12 ? 3 : 2) + faults(8, 7, 2));
            } else {
                String behind = BEGUN[kind].isEmpty() ? " 6/1" : faults(missingIn(BEGUN[kind]), end, 2);
                due(text, open + "?1" + closed + " ?6) " + nextStatement(kind) + ")", faults(8, 6, 2).trim() + behind);
            }
        }
        due("((((((", open + "?1" + closed + " ?6) 17:)", faults(8, 6, 2).trim());
        due("((((((a-b", open + "26(1:a 12:- 1:b)" + closed + " ?6) 17:)", faults(7, 9, 2).trim());
        due("((((((a-(b", open + "26(1:a 12:- ?1)" + closed + " ?6) 24(28(9:( 1:b ?10) ?6) 17:)",
            "8/3" + faults(7, 8, 2) + faults(2, 10, 2));
        due("((((((a*-b", open + "26(26(1:a 13:* ?1) 12:- 1:b)" + closed + " ?6) 17:)", "8/3" + faults(7, 10, 2));
    }

    // "an EXPRESSION, in it p is one more"; "an OPERAND, p is one more for it": every mixture of six, and of seven
    private static void nestingOfOperands() {
        for (int mixture = 0; mixture < 64; mixture++) {
            StringBuilder text = new StringBuilder();
            StringBuilder open = new StringBuilder("20(24(");
            String closed = "";
            String closers = "";
            for (int i = 0; i < 6; i++) {
                boolean minus = (mixture >> i & 1) == 1;
                text.append(minus ? "-" : "(");
                open.append(minus ? "27(12:- " : "28(9:( ");
                closed = (minus ? ")" : " 10:))") + closed;
                closers = minus ? closers : closers + ")";
            }
            due(text + "x" + closers + ";", open + "1:x" + closed + " 6:;) 17:)", "");
            check.due("7 of them: " + text + "(", Check.of(text + "(").fault(0), 4 * 6 + 3);
            check.due("7 of them: " + text + "-", Check.of(text + "-").fault(0), 4 * 6 + 3);
            check.due("6 of them: " + text + "+", Check.of(text + "+").fault(0), 4 * 6 + 2);
            check.due("6 of them: " + text, Check.of(text.toString()).fault(0), 4 * 6 + 2);
            String five = text.substring(0, 5);
            check.due("6 of them: " + five + "(1", Check.of(five + "(1").fault(0), 4 * 7 + 2);
            check.due("6 of them: " + five + "-1", Check.of(five + "-1").fault(0), 4 * 7 + 2);
        }
    }

    // "(p is 0 at first)": neither signs between operands nor statements round them count.
    private static void nestingBeginsAnew() {
        String six = "28(9:( 28(9:( 28(9:( 28(9:( 28(9:( 28(9:( 1:a 10:)) 10:)) 10:)) 10:)) 10:)) 10:))";
        String minuses = "27(12:- 27(12:- 27(12:- 27(12:- 27(12:- 27(12:- 1:b))))))";
        due("((((((a))))))*------b;", "20(24(26(" + six + " 13:* " + minuses + ") 6:;) 17:)", "");
        due("((((((a))))));------b;", "20(24(" + six + " 6:;) 24(" + minuses + " 6:;) 17:)", "");
        due("if(((((((a)))))))------b;", "20(22(3:if 9:( " + six + " 10:) 24(" + minuses + " 6:;)) 17:)", "");
        due("{{{{{{------b;}}}}}}", "20(" + "21(7:{ ".repeat(6) + "24(" + minuses + " 6:;)" + " 8:})".repeat(6) + " 17:)", "");
        due("x-------b;", "20(24(26(1:x 12:- " + minuses + ") 6:;) 17:)", "");
        due("x--------b;", "20(24(26(26(1:x 12:- 27(12:- 27(12:- 27(12:- 27(12:- 27(12:- 27(12:- ?1))))))) 12:- 1:b) 6:;) 17:)",
            "8/3");
    }

    private static final String SIGNS = "=<+-*";
    private static final int[] SIGN_KINDS = {15, 14, 11, 12, 13};
    private static final int[] BINDS = {1, 2, 3, 3, 4};

    // "13 binds most, then 11 and 12, then 14, then 15; the first four of these from the left .., 15 from the right"
    private static void pairsOfSigns() {
        for (int s = 0; s < 5; s++) {
            for (int t = 0; t < 5; t++) {
                String text = "a" + SIGNS.charAt(s) + "b" + SIGNS.charAt(t) + "c;";
                String first = " " + SIGN_KINDS[s] + ":" + SIGNS.charAt(s) + " ";
                String second = " " + SIGN_KINDS[t] + ":" + SIGNS.charAt(t) + " ";
                boolean fromLeft = BINDS[s] > BINDS[t] || (BINDS[s] == BINDS[t] && SIGNS.charAt(s) != '=');
                String left = "26(26(1:a" + first + "1:b)" + second + "1:c)";
                String right = "26(1:a" + first + "26(1:b" + second + "1:c))";
                due(text, "20(24(" + (fromLeft ? left : right) + " 6:;) 17:)", "");
            }
        }
        due("a=b<c+d*e;", "20(24(26(1:a 15:= 26(1:b 14:< 26(1:c 11:+ 26(1:d 13:* 1:e)))) 6:;) 17:)", "");
        due("a*b+c<d=e;", "20(24(26(26(26(26(1:a 13:* 1:b) 11:+ 1:c) 14:< 1:d) 15:= 1:e) 6:;) 17:)", "");
        due("a=b=c=d;", "20(24(26(1:a 15:= 26(1:b 15:= 26(1:c 15:= 1:d))) 6:;) 17:)", "");
        due("a+b*c-d;", "20(24(26(26(1:a 11:+ 26(1:b 13:* 1:c)) 12:- 1:d) 6:;) 17:)", "");
    }

    // "It goes on as long as the current token is one of these signs behind an operand."
    private static void signsThatGoOn() {
        due("a b", "20(24(1:a ?6) 24(1: b ?6) 17:)", "1/2 3/2");
        due("a 7", "20(24(1:a ?6) 24(2: 7 ?6) 17:)", "1/2 3/2");
        due("a(b)", "20(24(1:a ?6) 24(28(9:( 1:b 10:)) ?6) 17:)", "1/2 4/2");
        due("(a)+b;", "20(24(26(28(9:( 1:a 10:)) 11:+ 1:b) 6:;) 17:)", "");
        due("-a+b;", "20(24(26(27(12:- 1:a) 11:+ 1:b) 6:;) 17:)", "");
        due("-=b;", "20(24(26(27(12:- ?1) 15:= 1:b) 6:;) 17:)", "1/2");
        due("(+)", "20(24(28(9:( 26(?1 11:+ ?1) 10:)) ?6) 17:)", "1/2 2/2 3/2");
        due("+a;", "20(24(1:+a 6:;) 17:)", "0/1");
        due("if*a", "20(22(3:if ?9 26(?1 13:* 1:a) ?10 25(?6)) 17:)", "2/2 2/2 4/2 4/2");
        String longest = "a" + "=".repeat(59);
        due(longest, "20(24(26(1:a 15:= " + "26(?1 15:= ".repeat(58) + "?1" + ")".repeat(59) + " ?6) 17:)",
            longestFaults() + " 60/2 60/2");
        String chain = "a" + "-b".repeat(29) + ";";
        due(chain, "20(24(" + "26(".repeat(29) + "1:a" + " 12:- 1:b)".repeat(29) + " 6:;) 17:)", "");
    }

    private static String longestFaults() {
        StringBuilder faults = new StringBuilder();
        for (int place = 2; place <= 59; place++) {
            faults.append(place == 2 ? "" : " ").append(place).append("/2");
        }
        return faults.toString();
    }
}
